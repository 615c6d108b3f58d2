/** Promises 1 to 6 and 10: the game by strokes. */
public final class GameTest {
    private static final int BAD = -1, NOT = -2, FULL = -3, NONE = -4, CAST = -13;
    private static final Due due = new Due("GameTest");

    public static void main(String[] args) {
        constants();
        newObject();
        noGame();
        begin();
        refusedNumbers();
        refusalsInOrder();
        turn();
        notAsTold();
        hoopMakesLive();
        wrongPlay();
        wrongRoquet();
        outAndWon();
        otherSideIsPeggedOut();
        freeTurns();
        freeOfWrongBall();
        freeBallOut();
        asOfEach();
        full();
        counts();
        newGameInPlace();
        due.end();
    }

    private static CroquetLawn lawn() {
        CroquetLawn x = new CroquetLawn();
        due.is("game(0, 1)", x.game(0, 1), 0);
        return x;
    }

    private static void constants() {
        due.is("BAD", CroquetLawn.BAD, BAD);
        due.is("NOT", CroquetLawn.NOT, NOT);
        due.is("FULL", CroquetLawn.FULL, FULL);
        due.is("NONE", CroquetLawn.NONE, NONE);
        due.is("CAST", CroquetLawn.CAST, CAST);
    }

    private static void newObject() {
        CroquetLawn x = new CroquetLawn();
        due.is("state(0, 0)", x.state(0, 0), BAD);
        for (int p = 0; p < 8; p++) {
            due.is("handicap", x.handicap(p), 10);
            due.is("index", x.index(p, 1000), 1000);
        }
        for (int m = 0; m < 15; m++) {
            due.is("match winner", x.match(m, 2), NONE);
            due.is("hour", x.hour(m), NONE);
        }
        due.is("clear", x.clear(), 0);
        due.is("champion", x.champion(), NONE);
        due.is("lawns", x.lawns(2), 2);
        due.is("settle", x.settle(), NOT);
    }

    private static void noGame() {
        CroquetLawn x = new CroquetLawn();
        for (int kind = 0; kind < 7; kind++) {
            due.is("stroke without a game", x.stroke(kind, 0), NOT);
        }
        for (int what = 0; what < 3; what++) {
            due.is("count without a game", x.count(what), 0);
        }
        due.is("count(3) without a game", x.count(3), BAD);
        due.is("count(-1) without a game", x.count(-1), BAD);
        due.is("told", x.told(0, 0), NONE);
        due.is("hit", x.hit(0), BAD);
        due.is("found", x.found(0), BAD);
    }

    private static void begin() {
        CroquetLawn x = lawn();
        Tell.state(due, x, 0, 0, NONE, 0, 0, NONE, 0, 0, 0, 0, 0, 0, NONE);
        due.is("state(1, 0)", x.state(1, 0), BAD);
        due.is("state(-1, 0)", x.state(-1, 0), BAD);
        due.is("state(0, -1)", x.state(0, -1), BAD);
        due.is("state(0, 12)", x.state(0, 12), BAD);
        due.is("game(-1, 0)", x.game(-1, 0), -101);
        due.is("game(0, -1)", x.game(0, -1), -101);
        due.is("game(8, 0)", x.game(8, 0), -101);
        due.is("game(0, 8)", x.game(0, 8), -101);
        due.is("game(7, 7)", x.game(7, 7), -101);
        due.is("game(7, 6)", x.game(7, 6), 0);
    }

    private static void refusedNumbers() {
        CroquetLawn x = lawn();
        int[] numbers = {-1, 7, Integer.MAX_VALUE, Integer.MIN_VALUE};
        for (int number : numbers) {
            due.is("stroke kind", x.stroke(number, 0), BAD);
            due.is("play", x.stroke(0, number), BAD);
            due.is("roquet", x.stroke(3, number), BAD);
            due.is("hit", x.hit(number), BAD);
            due.is("count", x.count(number), BAD);
            due.is("told what", x.told(0, number), BAD);
        }
        due.is("play 4", x.stroke(0, 4), BAD);
        due.is("told(-1, 0)", x.told(-1, 0), BAD);
        due.is("told(MIN, 0)", x.told(Integer.MIN_VALUE, 0), BAD);
        due.is("told(MAX, 0)", x.told(Integer.MAX_VALUE, 0), NONE);
        due.is("told(0, 4)", x.told(0, 4), BAD);
        due.is("count(0)", x.count(0), 0);
        Tell.strokes(due, x, "P0");
        due.is("roquet of ball 4", x.stroke(3, 4), BAD);
        due.is("miss of any ball", x.stroke(1, 99), 1);
    }

    private static void refusalsInOrder() {
        CroquetLawn x = new CroquetLawn();
        due.is("BAD ahead of no game", x.stroke(7, 0), BAD);
        due.is("BAD ball ahead of no game", x.stroke(0, 4), BAD);
        due.is("a ball is looked at for PLAY, ROQUET alone", x.stroke(6, 4), NOT);
        due.is("state without a game", x.state(0, 12), BAD);
    }

    private static void turn() {
        CroquetLawn x = lawn();
        Tell.strokes(due, x, "P2");
        Tell.state(due, x, 1, 0, 2, 1, 11, NONE, 0, 0, 0, 0, 0, 0, NONE);
        Tell.strokes(due, x, "R3");
        Tell.state(due, x, 2, 0, 2, 0, 3, 3, 0, 0, 0, 0, 0, 0, NONE);
        Tell.strokes(due, x, "C");
        Tell.state(due, x, 3, 0, 2, 1, 3, NONE, 0, 0, 0, 0, 0, 0, NONE);
        Tell.strokes(due, x, "R0 C H");
        Tell.state(due, x, 6, 0, 2, 1, 11, NONE, 0, 0, 1, 0, 0, 0, NONE);
        Tell.strokes(due, x, "M");
        Tell.state(due, x, 7, 1, NONE, 0, 0, NONE, 0, 0, 1, 0, 0, 0, NONE);
        due.is("hit(1)", x.hit(1), 3);
        due.is("hit(3)", x.hit(3), 0);
        due.is("hit(2)", x.hit(2), CAST);
        due.is("hit(7)", x.hit(7), BAD);
        int[] kinds = {0, 3, 4, 3, 4, 2, 1};
        for (int s = 0; s < kinds.length; s++) {
            due.is("kind of " + s, x.told(s, 0), kinds[s]);
            due.is("striker of " + s, x.told(s, 1), 2);
            due.is("side of " + s, x.told(s, 2), 0);
            due.is("wrong of " + s, x.told(s, 3), 0);
        }
        due.is("told(7, 0)", x.told(7, 0), NONE);
        Tell.strokes(due, x, "P3");
        due.is("striker", x.told(7, 1), 3);
        due.is("side", x.told(7, 2), 1);
    }

    private static void notAsTold() {
        CroquetLawn x = lawn();
        for (int kind = 1; kind < 7; kind++) {
            due.is("ahead of the first play", x.stroke(kind, 0), NOT);
        }
        Tell.strokes(due, x, "P0");
        due.is("play in a turn", x.stroke(0, 2), NOT);
        due.is("croquet without a roquet", x.stroke(4, 0), NOT);
        due.is("peg with no hoops", x.stroke(5, 0), NOT);
        due.is("free in a turn", x.stroke(6, 0), NOT);
        due.is("roquet of the own ball", x.stroke(3, 0), NOT);
        Tell.strokes(due, x, "R1");
        for (int kind = 0; kind < 7; kind++) {
            if (kind != 4) {
                due.is("croquet must come", x.stroke(kind, 2), NOT);
            }
        }
        Tell.strokes(due, x, "C");
        due.is("croquet again", x.stroke(4, 0), NOT);
        Tell.strokes(due, x, "H H H H H");
        due.is("peg with five hoops", x.stroke(5, 0), NOT);
        Tell.strokes(due, x, "H");
        due.is("a seventh hoop", x.stroke(2, 0), NOT);
        Tell.strokes(due, x, "M");
        due.is("free without one left", x.stroke(6, 0), NOT);
        due.is("miss with no ball in play", x.stroke(1, 0), NOT);
        due.is("nothing was changed", x.count(0), 10);
    }

    private static void hoopMakesLive() {
        CroquetLawn x = lawn();
        Tell.strokes(due, x, "P0 R1 C R2 C R3 C");
        due.is("none live", x.state(7, 3), 0);
        Tell.strokes(due, x, "H R1");
        due.is("live again", x.state(8, 3), 14);
        due.is("not wrong", x.told(8, 3), 0);
    }

    private static void wrongPlay() {
        CroquetLawn x = lawn();
        Tell.strokes(due, x, "P1 H M");
        due.is("wrong", x.told(0, 3), 1);
        due.is("hoop not wrong", x.told(1, 3), 0);
        due.is("side by right", x.told(0, 2), 0);
        due.is("side by right of the hoop", x.told(1, 2), 0);
        due.is("striker", x.told(1, 1), 1);
        due.is("side to play in it", x.state(2, 0), 0);
        due.is("hoop of ball 1", x.state(2, 6), 1);
        due.is("side to play next", x.state(3, 0), 1);
        Tell.strokes(due, x, "P1 M P2 M P0");
        due.is("right", x.told(3, 3), 0);
        due.is("right too", x.told(5, 3), 0);
        due.is("wrong ball of side 0", x.told(7, 3), 1);
        due.is("wrong ones", x.count(1), 2);
    }

    private static void wrongRoquet() {
        CroquetLawn x = lawn();
        Tell.strokes(due, x, "P0 R3 C R3");
        due.is("right", x.told(1, 3), 0);
        due.is("wrong", x.told(3, 3), 1);
        due.is("hit", x.hit(3), 3);
        Tell.state(due, x, 4, 0, 0, 0, 6, 3);
        Tell.strokes(due, x, "C R1");
        due.is("another is right", x.told(5, 3), 0);
    }

    private static void outAndWon() {
        CroquetLawn x = lawn();
        Tell.strokes(due, x, "P0 H H H H H H G");
        Tell.state(due, x, 8, 1, NONE, 0, 0, NONE, 7, 0, 0, 0, 0, 0, NONE);
        Tell.strokes(due, x, "P1");
        due.is("a ball out is not live", x.state(9, 3), 12);
        due.is("roquet of a ball out", x.stroke(3, 0), NOT);
        Tell.strokes(due, x, "H");
        due.is("nor live by a hoop", x.state(10, 3), 12);
        Tell.strokes(due, x, "M");
        due.is("play of a ball out", x.stroke(0, 0), NOT);
        Tell.strokes(due, x, "P2 H H H H H H");
        due.is("not won yet", x.state(18, 11), NONE);
        Tell.strokes(due, x, "G");
        Tell.state(due, x, 19, 1, NONE, 0, 0, NONE, 7, 1, 7, 0, 0, 0, 0);
        for (int kind = 0; kind < 7; kind++) {
            due.is("stroke behind the end", x.stroke(kind, 1), NOT);
        }
    }

    private static void otherSideIsPeggedOut() {
        CroquetLawn x = lawn();
        Tell.strokes(due, x, "P1 H H H H H H G P3 H H H H H H G");
        Tell.state(due, x, 16, 0, NONE, 0, 0, NONE, 0, 7, 0, 7, 0, 0, 1);
        due.is("won", x.stroke(0, 0), NOT);
        due.is("wrong ones", x.count(1), 1);
    }

    private static CroquetLawn lawnWithFree(int first, int other) {
        CroquetLawn x = new CroquetLawn();
        x.index(0, first);
        x.index(1, other);
        x.game(0, 1);
        return x;
    }

    private static void freeTurns() {
        CroquetLawn x = lawnWithFree(1000, 700);
        Tell.state(due, x, 0, 0, NONE, 0, 0, NONE, 0, 0, 0, 0, 0, 2, NONE);
        Tell.strokes(due, x, "P0 M");
        due.is("free of side 0, which has none", x.stroke(6, 0), NOT);
        Tell.strokes(due, x, "P3 R0 C M F");
        Tell.state(due, x, 7, 1, 3, 1, 7, NONE, 0, 0, 0, 0, 0, 1, NONE);
        due.is("striker of free", x.told(6, 1), 3);
        due.is("side of free", x.told(6, 2), 1);
        due.is("kind of free", x.told(6, 0), 6);
        due.is("free is not wrong", x.told(6, 3), 0);
        Tell.strokes(due, x, "H M F M");
        Tell.state(due, x, 11, 0, NONE, 0, 0, NONE, 0, 0, 0, 1, 0, 0, NONE);
        due.is("a third one", x.stroke(6, 0), NOT);
        due.is("left as of 2", x.state(2, 10), 2);
        due.is("turns", x.count(2), 4);
    }

    private static void freeOfWrongBall() {
        CroquetLawn x = lawnWithFree(1000, 900);
        Tell.strokes(due, x, "P0 M P2 M F");
        due.is("the wrong play", x.told(2, 3), 1);
        due.is("the same ball", x.told(4, 1), 2);
        due.is("free is not wrong", x.told(4, 3), 0);
        due.is("of the side by right", x.told(4, 2), 1);
        due.is("its free turn", x.state(5, 10), 0);
    }

    private static void freeBallOut() {
        CroquetLawn x = lawnWithFree(500, 1000);
        Tell.strokes(due, x, "P0 H H H H H H G");
        due.is("free turns are left", x.state(8, 9), 3);
        due.is("free of a ball that is out", x.stroke(6, 0), NOT);
        Tell.strokes(due, x, "P1 M P2 M F");
        due.is("free of the other ball", x.told(12, 1), 2);
    }

    private static void asOfEach() {
        CroquetLawn x = lawn();
        Tell.strokes(due, x, "P0 H R2 C M P1 M");
        Tell.state(due, x, 0, 0, NONE, 0, 0, NONE, 0, 0, 0, 0, 0, 0, NONE);
        Tell.state(due, x, 1, 0, 0, 1, 14, NONE, 0);
        Tell.state(due, x, 2, 0, 0, 1, 14, NONE, 1);
        Tell.state(due, x, 3, 0, 0, 0, 10, 2, 1);
        Tell.state(due, x, 4, 0, 0, 1, 10, NONE, 1);
        Tell.state(due, x, 5, 1, NONE, 0, 0, NONE, 1);
        Tell.state(due, x, 6, 1, 1, 1, 13, NONE, 1);
        Tell.state(due, x, 7, 0, NONE, 0, 0, NONE, 1);
        due.is("one more", x.state(8, 0), BAD);
        due.is("looking back moves nothing", x.stroke(0, 0), 7);
    }

    private static void full() {
        CroquetLawn x = lawn();
        for (int turn = 0; turn < 75; turn++) {
            due.is("play", x.stroke(0, turn % 2), 2 * turn);
            due.is("miss", x.stroke(1, 0), 2 * turn + 1);
        }
        due.is("the 151st", x.stroke(0, 1), FULL);
        due.is("of several the first: NOT", x.stroke(1, 0), NOT);
        due.is("of several the first: BAD", x.stroke(0, 4), BAD);
        due.is("count", x.count(0), 150);
        due.is("turns", x.count(2), 75);
        due.is("state(150, 0)", x.state(150, 0), 1);
        due.is("state(151, 0)", x.state(151, 0), BAD);
        due.is("told(149, 0)", x.told(149, 0), 1);
        due.is("told(150, 0)", x.told(150, 0), NONE);
        due.is("hit(149)", x.hit(149), CAST);
        due.is("hit(150)", x.hit(150), BAD);
        due.is("found(150)", x.found(150), BAD);
        due.is("game", x.game(2, 3), 0);
        due.is("room again", x.stroke(0, 0), 0);
    }

    private static void counts() {
        CroquetLawn x = lawnWithFree(1000, 900);
        Tell.strokes(due, x, "P1 R0 C R0 C M P1 M F M");
        due.is("strokes", x.count(0), 10);
        due.is("wrong ones", x.count(1), 2);
        due.is("turns", x.count(2), 3);
        due.is("count(3)", x.count(3), BAD);
        due.is("count(-1)", x.count(-1), BAD);
    }

    private static void newGameInPlace() {
        CroquetLawn x = lawnWithFree(1000, 800);
        Tell.strokes(due, x, "P0 M P0 R1 C M F");
        due.is("a refused game", x.game(3, 3), -101);
        due.is("leaves the one that there is", x.count(0), 7);
        due.is("another game", x.game(1, 0), -1);
        due.is("no strokes", x.count(0), 0);
        due.is("none wrong", x.count(1), 0);
        due.is("told", x.told(0, 0), NONE);
        Tell.state(due, x, 0, 0, NONE, 0, 0, NONE, 0, 0, 0, 0, 1, 0, NONE);
        due.is("free ahead of any turn", x.stroke(6, 0), NOT);
        due.is("another game", x.game(0, 1), 1);
        Tell.strokes(due, x, "P0 M P1 M");
        due.is("another game", x.game(0, 1), 1);
        due.is("free behind a turn of an older game", x.stroke(6, 0), NOT);
    }
}
