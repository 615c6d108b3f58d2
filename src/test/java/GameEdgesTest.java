/** The boundary cases that the document names of strokes: section 1 of its terms, promises 2 to 6 and 10. */
public final class GameEdgesTest {
    private static final int BAD = -1, NOT = -2, FULL = -3, NONE = -4, CAST = -13;
    private static final int PLAY = 0, MISS = 1, HOOP = 2, ROQUET = 3, CROQUET = 4, PEG = 5, FREE = 6;
    private static final int[] FAR = {Integer.MIN_VALUE, Integer.MIN_VALUE + 1, -257, -256, -2, -1, 8, 255, 256, 257, 65536,
        1 << 30, Integer.MAX_VALUE - 1, Integer.MAX_VALUE};
    private static final Due due = new Due("GameEdgesTest");

    public static void main(String[] args) {
        onePlayer();
        answerOfGameIsNoRefusal();
        kindNumbers();
        ballNumbers();
        ballOfOthers();
        sideZeroBegins();
        playIsTheFirst();
        playMakesLive();
        playOfOtherSide();
        hoopsBelowSix();
        hoopMakesLive();
        roquetNotOwnNotOut();
        roquetOfNotLive();
        mustBeCroquetedNext();
        croquetJustThen();
        pegWithSix();
        pegEndsTurn();
        freeNotInPlay();
        freeBehindTurn();
        freeOneLeft();
        freeNotOut();
        freeAsByPlay();
        turnIsOver();
        bothOut();
        fullAt150();
        fullAndWon();
        toldEdges();
        hitEdges();
        stateEdges();
        countEdges();
        due.end();
    }

    private static CroquetLawn lawn(String strokes) {
        CroquetLawn x = Tell.game(due, 0, 0);
        if (!strokes.isEmpty()) {
            Tell.strokes(due, x, strokes);
        }
        return x;
    }

    /** Promise 2: "BAD less 100 (-101): also one PLAYER." */
    private static void onePlayer() {
        CroquetLawn x = new CroquetLawn();
        for (int first = -1; first <= 8; first++) {
            for (int other = -1; other <= 8; other++) {
                boolean bad = first < 0 || first > 7 || other < 0 || other > 7 || first == other;
                due.is("game(" + first + ", " + other + ")", x.game(first, other), bad ? -101 : 0);
            }
        }
        for (int far : FAR) {
            due.is("game(far, 1)", x.game(far, 1), -101);
            due.is("game(1, far)", x.game(1, far), -101);
            due.is("game(far, far)", x.game(far, far), -101);
        }
    }

    /** Promise 2: "FREE TURNS of SIDE 1 less those of SIDE 0", which may be -1 .. -10 and yet be a game. */
    private static void answerOfGameIsNoRefusal() {
        for (int free = 1; free <= 10; free++) {
            CroquetLawn x = Tell.game(due, free, 0);
            Tell.state(due, x, 0, 0, NONE, 0, 0, NONE, 0, 0, 0, 0, free, 0, NONE);
            x = Tell.game(due, 0, free);
            Tell.state(due, x, 0, 0, NONE, 0, 0, NONE, 0, 0, 0, 0, 0, free, NONE);
        }
    }

    /** Promise 3: "BAD": a kind is 0 .. 6. */
    private static void kindNumbers() {
        CroquetLawn x = lawn("P0");
        for (int far : FAR) {
            due.is("kind " + far, x.stroke(far, 1), BAD);
        }
        due.is("kind 7", x.stroke(7, 1), BAD);
        due.is("kind 6 is one", x.stroke(6, 1), NOT);
        due.is("kind 0 is one", x.stroke(0, 2), NOT);
        due.is("strokes", x.count(0), 1);
    }

    /** "A GAME has BALLS 0 .. 3." */
    private static void ballNumbers() {
        for (int ball = 0; ball < 4; ball++) {
            CroquetLawn x = lawn("");
            due.is("play of " + ball, x.stroke(PLAY, ball), 0);
            due.is("in play", x.state(1, 1), ball);
            due.is("roquet of " + (ball ^ 3), x.stroke(ROQUET, ball ^ 3), 1);
        }
        CroquetLawn x = lawn("");
        for (int far : FAR) {
            due.is("play of " + far, x.stroke(PLAY, far), BAD);
        }
        due.is("play of 4", x.stroke(PLAY, 4), BAD);
        Tell.strokes(due, x, "P0");
        for (int far : FAR) {
            due.is("roquet of " + far, x.stroke(ROQUET, far), BAD);
        }
        due.is("roquet of 4", x.stroke(ROQUET, 4), BAD);
        due.is("strokes", x.count(0), 1);
    }

    /** Promise 3: "The BALL is looked at for PLAY, ROQUET alone." */
    private static void ballOfOthers() {
        for (int far : FAR) {
            CroquetLawn x = Tell.game(due, 1, 0);
            Tell.strokes(due, x, "P2 R1");
            due.is("croquet, ball " + far, x.stroke(CROQUET, far), 2);
            for (int h = 0; h < 6; h++) {
                due.is("hoop, ball " + far, x.stroke(HOOP, far), 3 + h);
            }
            due.is("miss, ball " + far, x.stroke(MISS, far), 9);
            due.is("free, ball " + far, x.stroke(FREE, far), 10);
            due.is("it is the same ball", x.state(11, 1), 2);
            due.is("peg, ball " + far, x.stroke(PEG, far), 11);
            due.is("it is out", x.state(12, 7), 7);
        }
    }

    /** "SIDE 0 begins": also where side 1 was to play in the game before. */
    private static void sideZeroBegins() {
        CroquetLawn x = lawn("P0 M");
        due.is("side 1 to play", x.state(2, 0), 1);
        due.is("another game", x.game(1, 0), 0);
        due.is("side 0 to play", x.state(0, 0), 0);
        Tell.strokes(due, x, "P2");
        due.is("right", x.told(0, 3), 0);
        due.is("its side", x.told(0, 2), 0);
    }

    /** "PLAY a BALL (the first of a TURN)": not in one, and nothing else ahead of it. */
    private static void playIsTheFirst() {
        CroquetLawn x = lawn("");
        for (int kind = MISS; kind <= FREE; kind++) {
            due.is("kind " + kind + " ahead of the first turn", x.stroke(kind, 1), NOT);
        }
        Tell.strokes(due, x, "P0");
        for (int ball = 0; ball < 4; ball++) {
            due.is("play of " + ball + " in a turn", x.stroke(PLAY, ball), NOT);
        }
        Tell.strokes(due, x, "M");
        for (int kind = MISS; kind <= FREE; kind++) {
            due.is("kind " + kind + " ahead of the second turn", x.stroke(kind, 0), NOT);
        }
        due.is("strokes", x.count(0), 2);
    }

    /** "All other BALLS that are not OUT are LIVE", and a ball that is out is not played: in each set of balls out. */
    private static void playMakesLive() {
        int[][] sets = {{}, {0}, {1}, {2}, {3}, {0, 1}, {0, 3}, {1, 2}, {2, 3}};
        for (int[] set : sets) {
            for (int ball = 0; ball < 4; ball++) {
                CroquetLawn x = lawn("");
                int left = 15;
                for (int out : set) {
                    Tell.pegOut(due, x, out);
                    left &= ~(1 << out);
                }
                int n = x.count(0);
                boolean out = (left >> ball & 1) == 0;
                due.is("play of " + ball + " with " + left + " left", x.stroke(PLAY, ball), out ? NOT : n);
                due.is("live with " + left + " left", x.state(x.count(0), 3), out ? 0 : left & ~(1 << ball));
                due.is("to go", x.state(x.count(0), 2), out ? 0 : 1);
            }
        }
    }

    /** "(Of a BALL of the other SIDE: it is taken all the same: WRONG.)" */
    private static void playOfOtherSide() {
        for (int ball = 0; ball < 4; ball++) {
            CroquetLawn x = lawn("P" + ball);
            due.is("play of " + ball + " by side 0", x.told(0, 3), ball % 2);
            due.is("side by right", x.told(0, 2), 0);
            x = lawn("P0 M P" + ball);
            due.is("play of " + ball + " by side 1", x.told(2, 3), 1 - ball % 2);
            due.is("side by right", x.told(2, 2), 1);
        }
    }

    /** "HOOP (with HOOPS below 6)", of each ball; "run HOOPS (0 .. 6)". */
    private static void hoopsBelowSix() {
        for (int ball = 0; ball < 4; ball++) {
            CroquetLawn x = lawn("P" + ball);
            for (int hoops = 0; hoops < 6; hoops++) {
                due.is("hoops ahead of it", x.state(hoops + 1, 5 + ball), hoops);
                due.is("hoop", x.stroke(HOOP, 0), hoops + 1);
            }
            due.is("six are run", x.state(7, 5 + ball), 6);
            due.is("a seventh", x.stroke(HOOP, 0), NOT);
            due.is("six are run", x.state(7, 5 + ball), 6);
            for (int other = 0; other < 4; other++) {
                due.is("the others ran none", other == ball ? 0 : x.state(7, 5 + other), 0);
            }
        }
    }

    /** "All others not OUT are LIVE again", and what is out is not. */
    private static void hoopMakesLive() {
        CroquetLawn x = lawn("");
        Tell.pegOut(due, x, 3);
        Tell.strokes(due, x, "P1 R0 C R2 C");
        due.is("none live", x.state(13, 3), 0);
        Tell.strokes(due, x, "H");
        Tell.state(due, x, 14, 1, 1, 1, 5, NONE, 0, 1, 0, 7);
    }

    /** "ROQUET a BALL (not the own one, not OUT)". */
    private static void roquetNotOwnNotOut() {
        for (int own = 0; own < 4; own++) {
            for (int ball = 0; ball < 4; ball++) {
                CroquetLawn x = lawn("P" + own);
                due.is("roquet of " + ball + " by " + own, x.stroke(ROQUET, ball), own == ball ? NOT : 1);
                x = lawn("");
                Tell.pegOut(due, x, own);
                int by = own == 0 ? 1 : 0;
                Tell.strokes(due, x, "P" + by);
                boolean taken = ball != by && ball != own;
                due.is("roquet of " + ball + ", " + own + " being out", x.stroke(ROQUET, ball), taken ? 9 : NOT);
            }
        }
    }

    /** "(Of one that is not LIVE: taken all the same: WRONG.)" */
    private static void roquetOfNotLive() {
        CroquetLawn x = lawn("P0 R1 C R2 C R3 C R1 C R2 C R3 C H R1");
        int[] wrong = {0, 0, 0, 0, 0, 0, 0, 1, 0, 1, 0, 1, 0, 0, 0};
        for (int s = 0; s < wrong.length; s++) {
            due.is("wrong " + s, x.told(s, 3), wrong[s]);
        }
        due.is("live behind a wrong one", x.state(8, 3), 0);
        due.is("it must be croqueted too", x.state(8, 4), 1);
    }

    /** "It must be CROQUETED next": nothing else comes. */
    private static void mustBeCroquetedNext() {
        CroquetLawn x = lawn("P0 H H H H H R1");
        for (int kind = 0; kind <= FREE; kind++) {
            for (int ball = 0; ball < 4; ball++) {
                due.is("kind " + kind + " behind a roquet", kind == CROQUET ? NOT : x.stroke(kind, ball), NOT);
            }
        }
        Tell.strokes(due, x, "C H R1");
        due.is("peg behind a roquet", x.stroke(PEG, 0), NOT);
        due.is("croquet", x.stroke(CROQUET, 0), 10);
        due.is("peg then", x.stroke(PEG, 0), 11);
    }

    /** "CROQUET: just then; 1 to go." */
    private static void croquetJustThen() {
        CroquetLawn x = lawn("");
        due.is("with no ball in play", x.stroke(CROQUET, 0), NOT);
        Tell.strokes(due, x, "P0");
        due.is("behind play", x.stroke(CROQUET, 0), NOT);
        Tell.strokes(due, x, "R1 C");
        due.is("to go", x.state(3, 2), 1);
        due.is("behind croquet", x.stroke(CROQUET, 0), NOT);
        Tell.strokes(due, x, "H");
        due.is("behind hoop", x.stroke(CROQUET, 0), NOT);
        Tell.strokes(due, x, "M");
        due.is("behind miss", x.stroke(CROQUET, 0), NOT);
    }

    /** "PEG (with HOOPS 6)": with each number of hoops. */
    private static void pegWithSix() {
        CroquetLawn x = lawn("P0");
        for (int hoops = 0; hoops < 6; hoops++) {
            due.is("peg with " + hoops, x.stroke(PEG, 0), NOT);
            due.is("hoop", x.stroke(HOOP, 0), hoops + 1);
        }
        due.is("peg with 6", x.stroke(PEG, 0), 7);
        x = lawn("P0 H H H H H H M P1");
        due.is("of another's hoops", x.stroke(PEG, 0), NOT);
    }

    /** "The BALL is OUT, the TURN is over." */
    private static void pegEndsTurn() {
        CroquetLawn x = lawn("");
        Tell.pegOut(due, x, 2);
        Tell.state(due, x, 7, 0, 2, 1, 11, NONE, 0, 0, 6, 0, 0, 0, NONE);
        Tell.state(due, x, 8, 1, NONE, 0, 0, NONE, 0, 0, 7, 0, 0, 0, NONE);
        due.is("peg again", x.stroke(PEG, 0), NOT);
    }

    /** "FREE: with no BALL IN PLAY." */
    private static void freeNotInPlay() {
        CroquetLawn x = Tell.game(due, 10, 0);
        Tell.strokes(due, x, "P0");
        due.is("in a turn", x.stroke(FREE, 0), NOT);
        Tell.strokes(due, x, "M P1");
        due.is("in the other's turn", x.stroke(FREE, 0), NOT);
        Tell.strokes(due, x, "M P0 M F");
        due.is("in a free turn", x.stroke(FREE, 0), NOT);
        Tell.strokes(due, x, "R1");
        due.is("behind a roquet", x.stroke(FREE, 0), NOT);
        due.is("left", x.state(8, 9), 9);
    }

    /** "Behind a TURN's end: a FREE TURN of the SIDE that had it": not ahead of any turn, not of the other side. */
    private static void freeBehindTurn() {
        CroquetLawn x = Tell.game(due, 1, 0);
        due.is("ahead of any turn", x.stroke(FREE, 0), NOT);
        Tell.strokes(due, x, "P0 M P1 M");
        due.is("behind the other's turn", x.stroke(FREE, 0), NOT);
        x = Tell.game(due, 0, 1);
        due.is("ahead of any turn", x.stroke(FREE, 0), NOT);
        Tell.strokes(due, x, "P0 M");
        due.is("of the side that is to play", x.stroke(FREE, 0), NOT);
        Tell.strokes(due, x, "P1 H M F");
        Tell.state(due, x, 6, 1, 1, 1, 13, NONE, 0, 1, 0, 0, 0, 0, NONE);
        x = Tell.game(due, 2, 0);
        due.is("a new game", x.game(0, 1), -2);
        due.is("ahead of any turn of it", x.stroke(FREE, 0), NOT);
    }

    /** "It must have one left": each number of them, all spent one behind another. */
    private static void freeOneLeft() {
        for (int side = 0; side < 2; side++) {
            for (int free = 0; free <= 10; free++) {
                CroquetLawn x = Tell.game(due, side == 0 ? free : 0, side == 0 ? 0 : free);
                Tell.strokes(due, x, side == 0 ? "P2 M" : "P2 M P1 M");
                for (int left = free; left > 0; left--) {
                    due.is("left", x.state(x.count(0), 9 + side), left);
                    Tell.strokes(due, x, "F M");
                }
                due.is("left", x.state(x.count(0), 9 + side), 0);
                due.is("none left of " + free, x.stroke(FREE, 0), NOT);
                due.is("not below 0", x.state(x.count(0), 9 + side), 0);
                due.is("turns", x.count(2), free + 1 + side);
            }
        }
    }

    /** "And the BALL not be OUT": behind PEG none comes, of whatever side the ball is. */
    private static void freeNotOut() {
        for (int ball = 0; ball < 4; ball++) {
            CroquetLawn x = Tell.game(due, 3, 0);
            Tell.pegOut(due, x, ball);
            due.is("free of ball " + ball + ", which is out", x.stroke(FREE, 0), NOT);
            due.is("left", x.state(8, 9), 3);
        }
        CroquetLawn x = Tell.game(due, 3, 0);
        Tell.strokes(due, x, "P0 H H H H H H M F G");
        due.is("free behind a free turn's peg", x.stroke(FREE, 0), NOT);
        due.is("left", x.state(10, 9), 2);
    }

    /** "The same BALL is IN PLAY again, as by PLAY": also one of the other side, which is wrong by its play alone. */
    private static void freeAsByPlay() {
        CroquetLawn x = Tell.game(due, 2, 0);
        Tell.strokes(due, x, "P3 R0 C M F");
        Tell.state(due, x, 5, 0, 3, 1, 7, NONE, 0, 0, 0, 0, 1, 0, NONE);
        due.is("its play is wrong", x.told(0, 3), 1);
        due.is("free is not", x.told(4, 3), 0);
        due.is("the ball", x.told(4, 1), 3);
        due.is("the side by right", x.told(4, 2), 0);
        Tell.strokes(due, x, "R0");
        due.is("live again", x.told(5, 3), 0);
    }

    /** "A TURN is over with 0 to go (unless a BALL must be CROQUETED): .. the other SIDE is to PLAY." */
    private static void turnIsOver() {
        CroquetLawn x = lawn("P0 R3");
        Tell.state(due, x, 2, 0, 0, 0, 6, 3);
        Tell.strokes(due, x, "C M");
        Tell.state(due, x, 4, 1, NONE, 0, 0, NONE);
        Tell.strokes(due, x, "P1 M");
        Tell.state(due, x, 6, 0, NONE, 0, 0, NONE);
    }

    /** "A SIDE whose BALLS are both OUT has WON: no STROKES come any more": each two balls, in each order. */
    private static void bothOut() {
        for (int one = 0; one < 4; one++) {
            for (int two = 0; two < 4; two++) {
                if (one == two) {
                    continue;
                }
                CroquetLawn x = Tell.game(due, 1, 0);
                Tell.pegOut(due, x, one);
                due.is("one ball out", x.state(8, 11), NONE);
                Tell.pegOut(due, x, two);
                boolean won = one % 2 == two % 2;
                due.is(one + " and " + two + " out", x.state(16, 11), won ? one % 2 : NONE);
                due.is("settle", x.settle() > 0 ? 1 : 0, won ? 1 : 0);
                x = Tell.game(due, 1, 0);
                Tell.pegOut(due, x, one);
                Tell.pegOut(due, x, two);
                int left = one != 0 && two != 0 ? 0 : one != 1 && two != 1 ? 1 : 2;
                for (int kind = MISS; kind <= FREE; kind++) {
                    due.is("kind " + kind + " then", x.stroke(kind, left), NOT);
                }
                due.is("play then", x.stroke(PLAY, left), won ? NOT : 16);
            }
        }
    }

    /** "STROKES, as they come (150 at most)"; promise 3: "FULL: 150", behind BAD and NOT. */
    private static void fullAt150() {
        CroquetLawn x = lawn("");
        Tell.goOn(due, x, 148);
        due.is("the 149th", x.stroke(PLAY, 2), 148);
        due.is("the 150th", x.stroke(ROQUET, 3), 149);
        due.is("NOT ahead of FULL", x.stroke(MISS, 0), NOT);
        due.is("BAD ahead of FULL", x.stroke(7, 0), BAD);
        due.is("the 151st", x.stroke(CROQUET, 0), FULL);
        due.is("the 151st again", x.stroke(CROQUET, 0), FULL);
        due.is("strokes", x.count(0), 150);
        Tell.state(due, x, 150, 0, 2, 0, 3, 3);
        due.is("found(149)", x.found(149), NOT);
        due.is("hit(149)", x.hit(149), 3);
        due.is("told(150)", x.told(150, 0), NONE);
        due.is("state(151)", x.state(151, 0), BAD);
    }

    /** Of a game that is won with its 150th stroke NOT is answered ahead of FULL. */
    private static void fullAndWon() {
        CroquetLawn x = lawn("");
        Tell.goOn(due, x, 134);
        Tell.pegOut(due, x, 1);
        Tell.pegOut(due, x, 3);
        due.is("strokes", x.count(0), 150);
        due.is("won", x.state(150, 11), 1);
        due.is("NOT ahead of FULL", x.stroke(PLAY, 0), NOT);
        due.is("settle", x.settle() > 0 ? 1 : 0, 1);
        due.is("no game", x.stroke(PLAY, 0), NOT);
        due.is("game", x.game(2, 3), 0);
        due.is("room again", x.stroke(PLAY, 0), 0);
    }

    /** Promise 4: "BAD (what; s below 0); NONE: no such." */
    private static void toldEdges() {
        CroquetLawn x = lawn("P0 M");
        int[] whats = {Integer.MIN_VALUE, -1, 4, 256, Integer.MAX_VALUE};
        for (int what : whats) {
            due.is("told(0, " + what + ")", x.told(0, what), BAD);
            due.is("BAD ahead of NONE", x.told(2, what), BAD);
        }
        for (int what = 0; what < 4; what++) {
            due.is("told(-1)", x.told(-1, what), BAD);
            due.is("told(MIN)", x.told(Integer.MIN_VALUE, what), BAD);
            due.is("told(2)", x.told(2, what), NONE);
            due.is("told(150)", x.told(150, what), NONE);
            due.is("told(256)", x.told(256, what), NONE);
            due.is("told(MAX)", x.told(Integer.MAX_VALUE, what), NONE);
        }
        due.is("the last one", x.told(1, 0), MISS);
    }

    /** Promise 5: "BAD; CAST: it is no ROQUET": each kind. */
    private static void hitEdges() {
        CroquetLawn x = Tell.game(due, 1, 0);
        Tell.strokes(due, x, "P0 R3 C H H H H H H M F G");
        for (int s = 0; s < 12; s++) {
            due.is("hit(" + s + ")", x.hit(s), s == 1 ? 3 : CAST);
        }
        for (int far : new int[] {Integer.MIN_VALUE, -1, 12, 150, 257, Integer.MAX_VALUE}) {
            due.is("hit(" + far + ")", x.hit(far), BAD);
        }
    }

    /** Promise 6: "AS OF n STROKES (0 .. all .. )"; "BAD: also no GAME." */
    private static void stateEdges() {
        CroquetLawn x = new CroquetLawn();
        for (int what = -1; what <= 12; what++) {
            due.is("no game", x.state(0, what), BAD);
        }
        x.game(0, 1);
        Tell.strokes(due, x, "P0 H");
        for (int far : FAR) {
            due.is("state(" + far + ", 0)", x.state(far, 0), BAD);
        }
        due.is("state(3, 0)", x.state(3, 0), BAD);
        for (int what : new int[] {Integer.MIN_VALUE, -1, 12, 256, Integer.MAX_VALUE}) {
            due.is("state(2, " + what + ")", x.state(2, what), BAD);
        }
        due.is("state(0, 5)", x.state(0, 5), 0);
        due.is("state(2, 5)", x.state(2, 5), 1);
        due.is("state(2, 11)", x.state(2, 11), NONE);
    }

    /** Promise 10: "0 without a GAME. BAD." */
    private static void countEdges() {
        CroquetLawn x = new CroquetLawn();
        for (int what = 0; what < 3; what++) {
            due.is("count without a game", x.count(what), 0);
        }
        x.game(0, 1);
        for (int what = 0; what < 3; what++) {
            due.is("count of a game without strokes", x.count(what), 0);
        }
        for (int what : new int[] {Integer.MIN_VALUE, -1, 3, 256, Integer.MAX_VALUE}) {
            due.is("count(" + what + ")", x.count(what), BAD);
        }
        Tell.goOn(due, x, 150);
        due.is("strokes", x.count(0), 150);
        due.is("wrong ones", x.count(1), 0);
        due.is("turns", x.count(2), 75);
    }
}
