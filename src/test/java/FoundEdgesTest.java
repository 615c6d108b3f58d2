/** The boundary cases that the document names of wrong strokes that are found: LAWS and FOUND of its terms, promise 7. */
public final class FoundEdgesTest {
    private static final int BAD = -1, NOT = -2, FULL = -3, NONE = -4;
    private static final int PLAY = 0, CROQUET = 4, FREE = 6;
    private static final Due due = new Due("FoundEdgesTest");

    public static void main(String[] args) {
        lawsAtFirst();
        noMoreThanTheNumber();
        numbersAreStrokesNotTurns();
        names();
        notWrong();
        takenAwayFromTheFirst();
        takenAwayAsTheLast();
        asIfTheyNeverCame();
        otherSideByRight();
        noFreeAheadOfThat();
        turnThatGoesOnNow();
        nothingWithNoBallInPlay();
        nothingWhenWon();
        wrongNoMore();
        withoutClause();
        asOfWithWhatTheyDid();
        wonIsTakenAway();
        lawsOfNow();
        due.end();
    }

    private static CroquetLawn lawn(String laws, int free0, int free1, String strokes) {
        CroquetLawn x = Tell.game(due, free0, free1);
        if (!laws.isEmpty()) {
            due.is("laws " + laws, Tell.laws(x, laws), laws.split(";").length);
        }
        Tell.strokes(due, x, strokes);
        return x;
    }

    private static CroquetLawn lawn(String laws, String strokes) {
        return lawn(laws, 0, 0, strokes);
    }

    /** "At first "p5R;r2N"." */
    private static void lawsAtFirst() {
        for (int behind = 0; behind <= 7; behind++) {
            CroquetLawn x = lawn("", "P1");
            Tell.goOn(due, x, behind);
            due.is("play with " + behind + " behind", x.found(0), behind <= 5 ? 1 : NOT);
            x = lawn("", "P0 R1 C R1");
            Tell.goOn(due, x, behind);
            due.is("roquet with " + behind + " behind", x.found(3), behind <= 2 ? 2 : NOT);
        }
    }

    /** "If no more STROKES than the number came behind it": each number, each kind, each letter, one less and one more. */
    private static void noMoreThanTheNumber() {
        for (int number = 0; number <= 99; number++) {
            for (int behind = Math.max(0, number - 1); behind <= number + 1; behind++) {
                boolean late = behind > number;
                found("p" + number + "R", "P1", behind, late ? NOT : 1);
                found("p" + number + "N", "P1", behind, late ? NOT : 2);
                found("r" + number + "R", "P0 R1 C R1", behind, late ? NOT : 1);
                found("r" + number + "N", "P0 R1 C R1", behind, late ? NOT : 2);
            }
        }
    }

    private static void found(String laws, String strokes, int behind, int want) {
        CroquetLawn x = lawn(laws, strokes);
        int s = x.count(0) - 1;
        Tell.goOn(due, x, behind);
        due.is(laws + " with " + behind + " behind", x.found(s), want);
        due.is("strokes then", x.count(0), want == 1 ? s : s + 1 + behind);
        due.is("wrong ones then", x.count(1), want == NOT ? 1 : 0);
    }

    /** What came behind counts by strokes, over turns and free turns too. */
    private static void numbersAreStrokesNotTurns() {
        CroquetLawn x = lawn("p4N", 2, 0, "P1 M F M F");
        due.is("four behind", x.found(0), 2);
        x = lawn("p4N", 2, 0, "P1 M F M F M");
        due.is("five behind", x.found(0), NOT);
    }

    /** Promise 7: "BAD": s names no stroke. */
    private static void names() {
        CroquetLawn x = new CroquetLawn();
        due.is("no game", x.found(0), BAD);
        x = Tell.game(due, 0, 0);
        due.is("no stroke", x.found(0), BAD);
        Tell.strokes(due, x, "P1");
        for (int far : new int[] {Integer.MIN_VALUE, -256, -1, 1, 2, 150, 256, Integer.MAX_VALUE}) {
            due.is("found(" + far + ")", x.found(far), BAD);
        }
        due.is("found(0)", x.found(0), 1);
        due.is("it is gone", x.found(0), BAD);
    }

    /** Promise 7: "NOT": of each kind, a stroke that is not wrong. */
    private static void notWrong() {
        CroquetLawn x = lawn("p99R;r99R", 1, 0, "P0 R3 C H H H H H H M F G");
        for (int s = 0; s < 12; s++) {
            due.is("found(" + s + ")", x.found(s), NOT);
        }
        due.is("strokes", x.count(0), 12);
        x = lawn("p99R;r99R", "P1 H R0 C M");
        for (int s = 1; s < 5; s++) {
            due.is("of a wrong ball, but not wrong: found(" + s + ")", x.found(s), NOT);
        }
    }

    /** "By R it and all behind it are taken away": stroke 0, so that none is left. */
    private static void takenAwayFromTheFirst() {
        CroquetLawn x = lawn("p99R", "P3 H R0 C M P1 H M");
        due.is("found", x.found(0), 1);
        for (int what = 0; what < 3; what++) {
            due.is("count(" + what + ")", x.count(what), 0);
        }
        Tell.state(due, x, 0, 1, NONE, 0, 0, NONE, 0, 0, 0, 0, 0, 0, NONE);
        due.is("as of 1", x.state(1, 0), BAD);
        due.is("told(0)", x.told(0, 0), NONE);
        due.is("hit(2)", x.hit(2), BAD);
    }

    /** The same of the last stroke that there is room for: there is room again. */
    private static void takenAwayAsTheLast() {
        CroquetLawn x = Tell.game(due, 0, 0);
        Tell.goOn(due, x, 148);
        due.is("miss is not told yet", x.stroke(PLAY, 1), 148);
        Tell.goOn(due, x, 1);
        due.is("a right play", x.stroke(PLAY, 1), FULL);
        due.is("found", x.found(148), 1);
        Tell.state(due, x, 148, 1, NONE);
        Tell.goOn(due, x, 2);
        due.is("full", x.stroke(PLAY, 0), FULL);
        due.is("strokes", x.count(0), 150);
    }

    /** "(As if they never came)": hoops, balls out, free turns and what was wrong are as they were. */
    private static void asIfTheyNeverCame() {
        CroquetLawn x = lawn("p99R", 2, 0, "P0 H M P1 M P3 R0 C R0 C H H H H H H M F G");
        Tell.state(due, x, 19, 1, NONE, 0, 0, NONE, 1, 0, 0, 7, 1, 0, NONE);
        due.is("two are wrong", x.count(1), 2);
        due.is("found", x.found(5), 1);
        Tell.state(due, x, 5, 1, NONE, 0, 0, NONE, 1, 0, 0, 0, 2, 0, NONE);
        due.is("none is wrong", x.count(1), 0);
        due.is("turns", x.count(2), 2);
        Tell.strokes(due, x, "P3 R0");
        due.is("ball 0 is live", x.told(6, 3), 0);
    }

    /** "The other SIDE than that whose TURN it was (by right) is to PLAY": of each side, by each kind. */
    private static void otherSideByRight() {
        String[] strokes = {"P1", "P0 M P0", "P0 R1 C R1", "P0 M P1 R0 C R0", "P1 R0 C R0", "P0 M P2 R1 C R1"};
        int[] sides = {0, 1, 0, 1, 0, 1};
        for (int k = 0; k < strokes.length; k++) {
            CroquetLawn x = lawn("p9R;r9R", strokes[k]);
            int s = x.count(0) - 1;
            due.is("by right in " + strokes[k], x.told(s, 2), sides[k]);
            due.is("found in " + strokes[k], x.found(s), 1);
            Tell.state(due, x, s, 1 - sides[k], NONE, 0, 0, NONE);
            Tell.strokes(due, x, "P" + (1 - sides[k]));
            due.is("right", x.told(s, 3), 0);
        }
    }

    /** "With no FREE ahead of that": of neither side, whatever turn came before; behind the next turn one may come. */
    private static void noFreeAheadOfThat() {
        for (int side = 0; side < 2; side++) {
            String[] strokes = {"P0 M P0", "P0 M P1 M P1", "P0 M P1 M P2 R1 C R1", "P0 M P3 R1 C R1", "P1"};
            for (String one : strokes) {
                CroquetLawn x = lawn("p9R;r9R", side == 0 ? 5 : 0, side == 0 ? 0 : 5, one);
                int s = x.count(0) - 1;
                due.is("found in " + one, x.found(s), 1);
                due.is("free behind R in " + one, x.stroke(FREE, 0), NOT);
                int to = x.state(s, 0);
                Tell.strokes(due, x, "P" + to + " M");
                due.is("free behind the next turn in " + one, x.stroke(FREE, 0), to == side ? s + 2 : NOT);
            }
        }
    }

    /** "By N the TURN that goes on now is over": that in which it was, a free one, one of the other side. */
    private static void turnThatGoesOnNow() {
        CroquetLawn x = lawn("p99N;r99N", "P1 H");
        due.is("the same turn", x.found(0), 2);
        Tell.state(due, x, 2, 1, NONE, 0, 0, NONE, 0, 1, 0, 0);
        x = lawn("p99N;r99N", "P0 R1 C R1 C M P1 R0");
        due.is("the other side's turn", x.found(3), 2);
        Tell.state(due, x, 8, 0, NONE, 0, 0, NONE);
        due.is("no croquet", x.stroke(CROQUET, 0), NOT);
        Tell.strokes(due, x, "P2");
        due.is("right", x.told(8, 3), 0);
        x = lawn("p99N;r99N", 1, 0, "P1 M F");
        due.is("a free turn", x.found(0), 2);
        Tell.state(due, x, 3, 1, NONE, 0, 0, NONE, 0, 0, 0, 0, 0, 0, NONE);
        x = lawn("p99N;r99N", 0, 1, "P0 R1 C R1 C M P3 H");
        due.is("the other side's turn", x.found(3), 2);
        Tell.strokes(due, x, "F");
        Tell.state(due, x, 9, 1, 3, 1, 7, NONE, 0, 0, 0, 1, 0, 0, NONE);
    }

    /** "(Nothing if no BALL is IN PLAY)": the side to play stays, and a free turn may come as before. */
    private static void nothingWithNoBallInPlay() {
        CroquetLawn x = lawn("p99N", 2, 0, "P1 M");
        due.is("found", x.found(0), 2);
        Tell.state(due, x, 2, 1, NONE, 0, 0, NONE, 0, 0, 0, 0, 2, 0, NONE);
        due.is("wrong no more", x.count(1), 0);
        Tell.strokes(due, x, "F");
        due.is("the same ball", x.told(2, 1), 1);
        x = lawn("p99R;r99N", 5, 0, "P0 R1 C R1 C M P0");
        due.is("by R", x.found(6), 1);
        due.is("by N", x.found(3), 2);
        Tell.state(due, x, 6, 0, NONE, 0, 0, NONE);
        due.is("no free yet", x.stroke(FREE, 0), NOT);
    }

    /** The same of a game that is won: no ball is in play. */
    private static void nothingWhenWon() {
        CroquetLawn x = lawn("p99N", "P1 H H H H H H G P3 H H H H H H G");
        due.is("found", x.found(0), 2);
        Tell.state(due, x, 16, 0, NONE, 0, 0, NONE, 0, 7, 0, 7, 0, 0, 1);
        due.is("wrong no more", x.count(1), 0);
        due.is("settle", x.settle(), 10);
    }

    /** "Either way it is WRONG no more." */
    private static void wrongNoMore() {
        CroquetLawn x = lawn("p99N;r99N", "P1 R0 C R0 C R0 C");
        due.is("wrong ones", x.count(1), 3);
        due.is("found(5)", x.found(5), 2);
        due.is("told(5, 3)", x.told(5, 3), 0);
        due.is("again", x.found(5), NOT);
        due.is("the others are wrong yet", x.count(1), 2);
        due.is("found(0)", x.found(0), 2);
        due.is("found(3)", x.found(3), 2);
        due.is("wrong ones", x.count(1), 0);
        x = lawn("p99R", "P0 M P2");
        due.is("found by R", x.found(2), 1);
        due.is("wrong ones", x.count(1), 0);
    }

    /** "Without a CLAUSE for its KIND, or too late: it stands (NOT)": nothing changes. */
    private static void withoutClause() {
        String[] tapes = {"p99R", "r99R", " "};
        for (String tape : tapes) {
            CroquetLawn x = Tell.game(due, 0, 0);
            due.is("laws '" + tape + "'", Tell.laws(x, tape), tape.equals(" ") ? 0 : 1);
            Tell.strokes(due, x, "P1 R0 C R0");
            due.is("roquet by '" + tape + "'", x.found(3), tape.equals("r99R") ? 1 : NOT);
            due.is("play by '" + tape + "'", x.found(0), tape.equals("p99R") ? 1 : NOT);
        }
        CroquetLawn x = lawn("p0R;r0N", "P1 R0 C R0 C");
        due.is("play too late", x.found(0), NOT);
        due.is("roquet too late", x.found(3), NOT);
        due.is("both stand", x.count(1), 2);
        Tell.state(due, x, 5, 0, 1, 1, 12, NONE);
    }

    /** Promise 6: "with what R, N did behind the last of them, ahead of the next one". */
    private static void asOfWithWhatTheyDid() {
        CroquetLawn x = lawn("p9R;r9N", "P0 R1 C R1 C");
        due.is("N", x.found(3), 2);
        Tell.state(due, x, 4, 0, 0, 0, 12, 1);
        Tell.state(due, x, 5, 1, NONE, 0, 0, NONE);
        Tell.strokes(due, x, "P1 M P1");
        due.is("R", x.found(7), 1);
        Tell.state(due, x, 6, 1, 1, 1, 13, NONE);
        Tell.state(due, x, 7, 1, NONE, 0, 0, NONE);
        Tell.strokes(due, x, "P3 M");
        Tell.state(due, x, 5, 1, NONE, 0, 0, NONE);
        Tell.state(due, x, 7, 1, NONE, 0, 0, NONE);
        Tell.state(due, x, 8, 1, 3, 1, 7, NONE);
        Tell.state(due, x, 9, 0, NONE, 0, 0, NONE);
    }

    /** By R a won game goes on, if the stroke is one that led to it. */
    private static void wonIsTakenAway() {
        CroquetLawn x = lawn("p7R", "P0 H H H H H H G P2 H H H H H H G");
        due.is("won", x.state(16, 11), 0);
        due.is("found", x.found(8), 1);
        due.is("goes on", x.state(8, 11), NONE);
        due.is("settle", x.settle(), NOT);
        Tell.strokes(due, x, "P2 M");
        due.is("right", x.told(8, 3), 0);
    }

    /** A stroke is found by the laws that hold when it is found, not by those of the time when it came. */
    private static void lawsOfNow() {
        CroquetLawn x = lawn("p0R", "P1 H");
        due.is("too late", x.found(0), NOT);
        due.is("laws", Tell.laws(x, "p1N"), 1);
        due.is("in time by the new ones", x.found(0), 2);
    }
}
