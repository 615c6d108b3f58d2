/** Promise 7, and what it does to promises 3 to 6 and 10: wrong strokes that are found. */
public final class FoundTest {
    private static final int BAD = -1, NOT = -2, NONE = -4;
    private static final Due due = new Due("FoundTest");

    public static void main(String[] args) {
        refusals();
        playByR();
        playTooLate();
        roquetByN();
        roquetTooLate();
        nWithNoBallInPlay();
        nEndsWhatMustBeCroqueted();
        nAllowsFree();
        rGivesBackFree();
        rOfRoquet();
        rForbidsFree();
        rOfRoquetForbidsFree();
        rTwiceAtOnePlace();
        nThenRAtOnePlace();
        rThenNAtOnePlace();
        rulingsBehindAreGone();
        rulingsAreKept();
        wonIsUndone();
        fullIsUndone();
        fullByN();
        lawsHoldOverGames();
        noClause();
        rulingsOfAnOlderGame();
        due.end();
    }

    private static CroquetLawn lawn() {
        CroquetLawn x = new CroquetLawn();
        due.is("game(0, 1)", x.game(0, 1), 0);
        return x;
    }

    private static CroquetLawn lawn(String laws) {
        CroquetLawn x = lawn();
        due.is("laws " + laws, x.laws(), 0);
        int clauses = laws.isEmpty() ? 0 : laws.split(";").length;
        due.is("laws " + laws, Tell.laws(x, laws), clauses);
        return x;
    }

    private static void refusals() {
        CroquetLawn x = lawn();
        Tell.strokes(due, x, "P0 M");
        due.is("found(-1)", x.found(-1), BAD);
        due.is("found(2)", x.found(2), BAD);
        due.is("found(MAX)", x.found(Integer.MAX_VALUE), BAD);
        due.is("found(MIN)", x.found(Integer.MIN_VALUE), BAD);
        due.is("not wrong", x.found(0), NOT);
        due.is("not wrong", x.found(1), NOT);
        due.is("nothing changed", x.count(0), 2);
    }

    private static void playByR() {
        CroquetLawn x = lawn();
        Tell.strokes(due, x, "P0 M P0 H H H M P3");
        due.is("five behind", x.found(2), 1);
        due.is("strokes", x.count(0), 2);
        due.is("wrong ones", x.count(1), 0);
        due.is("told(2, 0)", x.told(2, 0), NONE);
        Tell.state(due, x, 2, 0, NONE, 0, 0, NONE, 0, 0, 0, 0, 0, 0, NONE);
        due.is("as of 1 nothing changed", x.state(1, 1), 0);
        Tell.strokes(due, x, "P0");
        due.is("right now", x.told(2, 3), 0);
        due.is("its side", x.told(2, 2), 0);
    }

    private static void playTooLate() {
        CroquetLawn x = lawn();
        Tell.strokes(due, x, "P1 H H H H H");
        due.is("still in time", x.told(0, 3), 1);
        Tell.strokes(due, x, "H");
        due.is("six behind", x.found(0), NOT);
        due.is("still wrong", x.count(1), 1);
        due.is("all there", x.count(0), 7);
    }

    private static void roquetByN() {
        CroquetLawn x = lawn();
        Tell.strokes(due, x, "P0 R1 C R1 C H");
        due.is("two behind", x.found(3), 2);
        due.is("all there", x.count(0), 6);
        due.is("wrong no more", x.told(3, 3), 0);
        due.is("none wrong", x.count(1), 0);
        due.is("found again", x.found(3), NOT);
        Tell.state(due, x, 6, 1, NONE, 0, 0, NONE, 1, 0, 0, 0, 0, 0, NONE);
        Tell.state(due, x, 5, 0, 0, 1, 12, NONE, 0);
        due.is("the turn is over", x.stroke(1, 0), NOT);
        Tell.strokes(due, x, "P3");
        due.is("right", x.told(6, 3), 0);
        Tell.state(due, x, 7, 1, 3, 1, 7, NONE);
        Tell.state(due, x, 6, 1, NONE, 0, 0, NONE);
    }

    private static void roquetTooLate() {
        CroquetLawn x = lawn();
        Tell.strokes(due, x, "P0 R1 C R1 C H H");
        due.is("three behind", x.found(3), NOT);
        due.is("in play yet", x.state(7, 1), 0);
    }

    private static void nWithNoBallInPlay() {
        CroquetLawn x = lawn();
        Tell.strokes(due, x, "P0 R1 C R1 C M");
        due.is("found", x.found(3), 2);
        due.is("wrong no more", x.count(1), 0);
        due.is("side 1 to play", x.state(6, 0), 1);
        Tell.strokes(due, x, "P1");
        due.is("right", x.told(6, 3), 0);
    }

    private static void nEndsWhatMustBeCroqueted() {
        CroquetLawn x = lawn();
        Tell.strokes(due, x, "P2 R1 C R1");
        due.is("must be croqueted", x.state(4, 4), 1);
        due.is("found", x.found(3), 2);
        Tell.state(due, x, 4, 1, NONE, 0, 0, NONE);
        due.is("croquet", x.stroke(4, 0), NOT);
        Tell.strokes(due, x, "P1");
    }

    private static void nAllowsFree() {
        CroquetLawn x = new CroquetLawn();
        x.index(0, 800);
        due.is("game", x.game(0, 1), -1);
        Tell.strokes(due, x, "P2 R1 C R1 C");
        due.is("found", x.found(3), 2);
        Tell.strokes(due, x, "F");
        due.is("the same ball", x.told(5, 1), 2);
        due.is("the side that had the turn", x.told(5, 2), 0);
        Tell.state(due, x, 6, 0, 2, 1, 11, NONE, 0, 0, 0, 0, 0, 0, NONE);
    }

    private static void rGivesBackFree() {
        CroquetLawn x = new CroquetLawn();
        x.index(0, 600);
        due.is("game", x.game(0, 1), -2);
        Tell.strokes(due, x, "P1 M F M F");
        due.is("none left", x.state(5, 9), 0);
        due.is("found", x.found(0), 1);
        due.is("both are back", x.state(0, 9), 2);
        due.is("turns", x.count(2), 0);
        due.is("side 1 to play", x.state(0, 0), 1);
        Tell.strokes(due, x, "P1");
        due.is("right", x.told(0, 3), 0);
    }

    private static void rOfRoquet() {
        CroquetLawn x = lawn("r1R");
        Tell.strokes(due, x, "P0 M P1 H R0 C R0 C");
        due.is("found", x.found(6), 1);
        Tell.state(due, x, 6, 0, NONE, 0, 0, NONE, 0, 1, 0, 0, 0, 0, NONE);
        due.is("of side 1 yet", x.state(5, 0), 1);
        due.is("hit", x.hit(6), BAD);
    }

    private static void rForbidsFree() {
        CroquetLawn x = new CroquetLawn();
        x.index(0, 0);
        x.index(1, 1000);
        due.is("game", x.game(0, 1), -5);
        Tell.strokes(due, x, "P0 M P2");
        due.is("found", x.found(2), 1);
        due.is("side 0 to play", x.state(2, 0), 0);
        due.is("no free ahead of that", x.stroke(6, 0), NOT);
        Tell.strokes(due, x, "P0 M F");
        due.is("free behind that", x.state(5, 9), 4);
        x = new CroquetLawn();
        x.index(1, 0);
        due.is("game", x.game(0, 1), 5);
        Tell.strokes(due, x, "P0 M P1 M P0 M P2");
        due.is("found", x.found(6), 1);
        due.is("no free of the side whose turn it was", x.stroke(6, 0), NOT);
        due.is("nor by another ball", x.stroke(6, 1), NOT);
        Tell.strokes(due, x, "P0 M P1 R0 C M F");
        due.is("free behind the next turn", x.told(12, 1), 1);
    }

    private static void rOfRoquetForbidsFree() {
        CroquetLawn x = lawn("r9R");
        x.index(0, 0);
        due.is("game", x.game(0, 1), -5);
        Tell.strokes(due, x, "P0 M F R1 C R1");
        due.is("found", x.found(5), 1);
        due.is("no free ahead of that", x.stroke(6, 0), NOT);
        due.is("the free turn before it stays", x.state(5, 9), 4);
        Tell.strokes(due, x, "P1");
    }

    private static void rTwiceAtOnePlace() {
        CroquetLawn x = lawn();
        Tell.strokes(due, x, "P1");
        due.is("found", x.found(0), 1);
        due.is("side 1", x.state(0, 0), 1);
        Tell.strokes(due, x, "P0");
        due.is("side by right", x.told(0, 2), 1);
        due.is("wrong", x.told(0, 3), 1);
        due.is("found", x.found(0), 1);
        due.is("side 0", x.state(0, 0), 0);
        Tell.strokes(due, x, "P2 M");
        due.is("right", x.count(1), 0);
        due.is("side 1", x.state(2, 0), 1);
    }

    private static void nThenRAtOnePlace() {
        CroquetLawn x = lawn("p9R;r9N");
        Tell.strokes(due, x, "P0 R1 C R1 C");
        due.is("by N", x.found(3), 2);
        Tell.strokes(due, x, "P2");
        due.is("wrong", x.told(5, 3), 1);
        due.is("by R", x.found(5), 1);
        Tell.state(due, x, 5, 0, NONE, 0, 0, NONE);
        Tell.state(due, x, 4, 0, 0, 0, 12, 1);
        Tell.strokes(due, x, "P2 M P1");
        due.is("none wrong", x.count(1), 0);
    }

    private static void rThenNAtOnePlace() {
        CroquetLawn x = lawn("p9R;r9N");
        Tell.strokes(due, x, "P0 R1 C R1 C M P0");
        due.is("by R", x.found(6), 1);
        due.is("side 0", x.state(6, 0), 0);
        due.is("by N: nothing", x.found(3), 2);
        due.is("side 0 yet", x.state(6, 0), 0);
        Tell.strokes(due, x, "P2");
        due.is("right", x.told(6, 3), 0);
        due.is("looking back", x.state(6, 0), 0);
    }

    private static void rulingsBehindAreGone() {
        CroquetLawn x = lawn("p99R;r99N");
        Tell.strokes(due, x, "P1 R0 C R0 C");
        due.is("by N", x.found(3), 2);
        due.is("by R", x.found(0), 1);
        due.is("side 1", x.state(0, 0), 1);
        Tell.strokes(due, x, "P1 R0 C R2 C");
        due.is("no ruling here now", x.state(5, 1), 1);
        Tell.state(due, x, 5, 1, 1, 1, 8, NONE);
        Tell.strokes(due, x, "R2 C");
        due.is("wrong", x.told(5, 3), 1);
    }

    private static void rulingsAreKept() {
        CroquetLawn x = lawn("p99R;r99N");
        Tell.strokes(due, x, "P0 R1 C R1 C");
        due.is("by N", x.found(3), 2);
        Tell.strokes(due, x, "P1 H M P1");
        due.is("by R", x.found(8), 1);
        due.is("as of 5 the turn was over", x.state(5, 1), NONE);
        Tell.state(due, x, 8, 1, NONE, 0, 0, NONE, 0, 1, 0, 0);
        Tell.strokes(due, x, "P1");
        Tell.state(due, x, 9, 1, 1, 1, 13, NONE, 0, 1, 0, 0);
    }

    private static void wonIsUndone() {
        CroquetLawn x = lawn("p99R");
        Tell.strokes(due, x, "P0 H H H H H H G P2 H H H H H H G");
        due.is("won", x.state(16, 11), 0);
        due.is("stroke", x.stroke(0, 1), NOT);
        due.is("found", x.found(8), 1);
        due.is("not won", x.state(8, 11), NONE);
        due.is("side 0", x.state(8, 0), 0);
        due.is("settle", x.settle(), NOT);
        Tell.strokes(due, x, "P2 M P1");
    }

    private static void fullIsUndone() {
        CroquetLawn x = lawn();
        for (int turn = 0; turn < 74; turn++) {
            x.stroke(0, turn % 2);
            x.stroke(1, 0);
        }
        Tell.strokes(due, x, "P1 M");
        due.is("full", x.stroke(0, 1), -3);
        due.is("found", x.found(148), 1);
        Tell.state(due, x, 148, 1, NONE);
        Tell.strokes(due, x, "P1 M");
        due.is("full again", x.stroke(0, 0), -3);
        due.is("as of 150", x.state(150, 0), 0);
    }

    private static void fullByN() {
        CroquetLawn x = lawn();
        for (int turn = 0; turn < 73; turn++) {
            x.stroke(0, turn % 2);
            x.stroke(1, 0);
        }
        Tell.strokes(due, x, "P1 R0 C R0");
        due.is("found", x.found(149), 2);
        Tell.state(due, x, 150, 0, NONE, 0, 0, NONE);
        Tell.state(due, x, 149, 1, 1, 1, 12, NONE);
        due.is("full", x.stroke(0, 0), -3);
    }

    private static void lawsHoldOverGames() {
        CroquetLawn x = lawn("p0N");
        due.is("another game", x.game(2, 3), 0);
        Tell.strokes(due, x, "P1");
        due.is("by N", x.found(0), 2);
        due.is("side 1", x.state(1, 0), 1);
        Tell.strokes(due, x, "P0 H");
        due.is("one behind", x.found(1), NOT);
    }

    private static void noClause() {
        CroquetLawn x = lawn("p9R");
        Tell.strokes(due, x, "P0 R1 C R1");
        due.is("no clause of roquets", x.found(3), NOT);
        x = lawn("r9R");
        Tell.strokes(due, x, "P1");
        due.is("no clause of plays", x.found(0), NOT);
        x = lawn("");
        Tell.strokes(due, x, "P1 R0 C R0");
        due.is("no clause at all", x.found(0), NOT);
        due.is("no clause at all", x.found(3), NOT);
        due.is("both stand", x.count(1), 2);
    }

    private static void rulingsOfAnOlderGame() {
        CroquetLawn x = lawn();
        Tell.strokes(due, x, "P1");
        due.is("found", x.found(0), 1);
        due.is("another game", x.game(0, 1), 0);
        due.is("side 0 begins", x.state(0, 0), 0);
        Tell.strokes(due, x, "P0 R1 C R1");
        due.is("found", x.found(3), 2);
        due.is("another game", x.game(0, 1), 0);
        Tell.strokes(due, x, "P0 R1 C H");
        due.is("in play", x.state(4, 1), 0);
    }
}
