/** The boundary cases that the document names of players: section 2 of its terms, promises 1, 2 and 11 to 13. */
public final class PlayersEdgesTest {
    private static final int BAD = -1, NOT = -2;
    private static final int[] FAR = {Integer.MIN_VALUE, Integer.MIN_VALUE + 1, -65536, -256, -1, 8, 9, 256, 65536, Integer.MAX_VALUE};
    private static final Due due = new Due("PlayersEdgesTest");

    public static void main(String[] args) {
        firstIndexes();
        playerNumbers();
        indexNumbers();
        handicapCutDown();
        handicapRefused();
        halfCutUp();
        greaterHandicapHasThem();
        settleRefused();
        partCutTowardNought();
        heldWithin1And19();
        heldEachForItself();
        noGameAnyMore();
        due.end();
    }

    /** Terms: "INDEX (.. 1000 at first)"; promise 1: "INDEXES 1000". */
    private static void firstIndexes() {
        CroquetLawn x = new CroquetLawn();
        for (int p = 0; p < 8; p++) {
            due.is("handicap of " + p, x.handicap(p), 10);
            due.is("index of " + p, x.index(p, p), 1000);
        }
        for (int p = 0; p < 8; p++) {
            due.is("index of " + p + " alone", x.index(p, 1000), p);
        }
    }

    /** Terms: "PLAYERS 0 .. 7"; promise 11: "BAD". */
    private static void playerNumbers() {
        CroquetLawn x = new CroquetLawn();
        for (int far : FAR) {
            due.is("index of " + far, x.index(far, 5), BAD);
            due.is("both wrong", x.index(far, -1), BAD);
        }
        for (int p = 0; p < 8; p++) {
            due.is("nothing changed", x.index(p, 1000), 1000);
        }
    }

    /** Terms: "INDEX (0 .. 2000 ..)"; promise 11: "An INDEX: what it was. BAD." */
    private static void indexNumbers() {
        for (int first = -100; first < 2100; first += 100) {
            CroquetLawn x = new CroquetLawn();
            int was = 1000;
            for (int v = first; v < first + 100; v++) {
                boolean good = v >= 0 && v <= 2000;
                due.is("index " + v, x.index(3, v), good ? was : BAD);
                was = good ? v : was;
            }
            due.is("the last one that was taken", x.index(3, 0), was);
        }
        CroquetLawn x = new CroquetLawn();
        for (int far : new int[] {Integer.MIN_VALUE, -65536, -2000, 2001, 65536, 67536, Integer.MAX_VALUE}) {
            due.is("index " + far, x.index(3, far), BAD);
        }
        due.is("nothing changed", x.index(3, 0), 1000);
    }

    /** Terms: "20, less a 100th part (cut down) of INDEX": each index. */
    private static void handicapCutDown() {
        for (int handicap = 20; handicap >= 0; handicap--) {
            CroquetLawn x = new CroquetLawn();
            int lowest = 100 * (20 - handicap);
            for (int v = lowest; v < lowest + 100 && v <= 2000; v++) {
                x.index(5, v);
                due.is("handicap of index " + v, x.handicap(5), handicap);
            }
        }
    }

    /** Promise 12: "BAD less 100 (-101)". */
    private static void handicapRefused() {
        CroquetLawn x = new CroquetLawn();
        for (int far : FAR) {
            due.is("handicap of " + far, x.handicap(far), -101);
        }
        x.index(7, 2000);
        due.is("a handicap may be 0", x.handicap(7), 0);
        x.index(0, 0);
        due.is("a handicap may be 20", x.handicap(0), 20);
    }

    /** Terms: "FREE TURNS: half the difference (cut up)": each two handicaps. */
    private static void halfCutUp() {
        int[] half = {0, 1, 1, 2, 2, 3, 3, 4, 4, 5, 5, 6, 6, 7, 7, 8, 8, 9, 9, 10, 10};
        for (int one = 0; one <= 20; one++) {
            for (int two = 0; two <= 20; two++) {
                CroquetLawn x = new CroquetLawn();
                x.index(6, 2000 - 100 * one);
                x.index(2, 2000 - 100 * two);
                int free0 = one > two ? half[one - two] : 0;
                int free1 = two > one ? half[two - one] : 0;
                due.is("handicaps " + one + " and " + two, x.game(6, 2), free1 - free0);
                due.is("of side 0", x.state(0, 9), free0);
                due.is("of side 1", x.state(0, 10), free1);
            }
        }
    }

    /** Terms: "the one of the greater HANDICAP has FREE TURNS": by handicaps, not by indexes. */
    private static void greaterHandicapHasThem() {
        CroquetLawn x = new CroquetLawn();
        x.index(0, 1000);
        x.index(1, 1099);
        due.is("the same handicap", x.game(0, 1), 0);
        x.index(1, 1100);
        due.is("one less", x.game(0, 1), -1);
        due.is("one more", x.game(1, 0), 1);
        x.index(0, 999);
        x.index(1, 1000);
        due.is("an index of one more is a handicap less", x.game(0, 1), -1);
    }

    /** Promise 13: "NOT: no GAME, or it is not WON." */
    private static void settleRefused() {
        CroquetLawn x = new CroquetLawn();
        due.is("no game", x.settle(), NOT);
        x.game(0, 1);
        due.is("no stroke", x.settle(), NOT);
        Tell.pegOut(due, x, 0);
        due.is("one ball out", x.settle(), NOT);
        Tell.pegOut(due, x, 1);
        due.is("one ball of each side out", x.settle(), NOT);
        Tell.strokes(due, x, "P2 H H H H H H");
        due.is("all but the peg", x.settle(), NOT);
        due.is("strokes", x.count(0), 23);
        Tell.strokes(due, x, "G");
        due.is("won", x.settle(), 10);
        due.is("again", x.settle(), NOT);
        due.is("index of 0", x.index(0, 0), 1010);
        due.is("index of 1", x.index(1, 0), 990);
    }

    /** A game that side 0 (player 2) or side 1 (player 6) has won; then the indexes are as told. */
    private static CroquetLawn won(int side, int winner, int loser) {
        CroquetLawn x = new CroquetLawn();
        x.game(2, 6);
        Tell.pegOut(due, x, side);
        Tell.pegOut(due, x, side + 2);
        x.index(side == 0 ? 2 : 6, winner);
        x.index(side == 0 ? 6 : 2, loser);
        return x;
    }

    /** Terms: "10 less a 20th part of (..), cut toward 0": each difference at which E is not held. */
    private static void partCutTowardNought() {
        for (int apart = -199; apart <= 199; apart++) {
            int part = 0;
            for (int whole = 20; whole <= Math.abs(apart); whole += 20) {
                part++;
            }
            int e = apart < 0 ? 10 + part : 10 - part;
            CroquetLawn x = won(apart & 1, 1000 + apart, 1000);
            due.is("winner's index " + apart + " more", x.settle(), e);
            due.is("winner's index", x.index((apart & 1) == 0 ? 2 : 6, 0), 1000 + apart + e);
            due.is("loser's index", x.index((apart & 1) == 0 ? 6 : 2, 0), 1000 - e);
        }
    }

    /** Terms: "held within 1 .. 19": where it begins to be held, and at the ends. */
    private static void heldWithin1And19() {
        int[][] rows = {{179, 2}, {180, 1}, {199, 1}, {200, 1}, {219, 1}, {220, 1}, {240, 1}, {1000, 1},
            {-179, 18}, {-180, 19}, {-199, 19}, {-200, 19}, {-219, 19}, {-220, 19}, {-400, 19}, {-1000, 19}};
        for (int[] row : rows) {
            due.is("difference " + row[0], won(0, 1000 + row[0], 1000).settle(), row[1]);
            due.is("difference " + row[0] + " by side 1", won(1, 1000, 1000 - row[0]).settle(), row[1]);
        }
        due.is("the greatest difference", won(0, 2000, 0).settle(), 1);
        due.is("the least difference", won(0, 0, 2000).settle(), 19);
    }

    /** Terms: "(held within 0 .. 2000, each for itself)": one is held, the other moves by all of E. */
    private static void heldEachForItself() {
        int[][] rows = {{2000, 2000, 10, 2000, 1990}, {1991, 1991, 10, 2000, 1981}, {1990, 1990, 10, 2000, 1980},
            {1989, 1989, 10, 1999, 1979}, {0, 0, 10, 10, 0}, {9, 9, 10, 19, 0}, {10, 10, 10, 20, 0}, {11, 11, 10, 21, 1},
            {2000, 0, 1, 2000, 0}, {2000, 1, 1, 2000, 0}, {1999, 0, 1, 2000, 0}, {2000, 1500, 1, 2000, 1499},
            {500, 0, 1, 501, 0}, {0, 2000, 19, 19, 1981}};
        for (int[] row : rows) {
            for (int side = 0; side < 2; side++) {
                CroquetLawn x = won(side, row[0], row[1]);
                String name = row[0] + " wins over " + row[1];
                due.is(name, x.settle(), row[2]);
                due.is(name + ": winner", x.index(side == 0 ? 2 : 6, 0), row[3]);
                due.is(name + ": loser", x.index(side == 0 ? 6 : 2, 0), row[4]);
            }
        }
    }

    /** Promise 13: "there is no GAME any more": all that asks for one says so. */
    private static void noGameAnyMore() {
        CroquetLawn x = won(1, 1000, 1000);
        due.is("won", x.settle(), 10);
        for (int kind = 0; kind < 7; kind++) {
            due.is("stroke", x.stroke(kind, 0), NOT);
        }
        for (int what = 0; what < 12; what++) {
            due.is("state", x.state(0, what), BAD);
        }
        for (int what = 0; what < 3; what++) {
            due.is("count", x.count(what), 0);
        }
        due.is("told", x.told(0, 0), -4);
        due.is("hit", x.hit(0), BAD);
        due.is("found", x.found(0), BAD);
        due.is("game by the moved indexes 990 and 1010", x.game(2, 6), -1);
        due.is("no stroke of the one before", x.count(0), 0);
        due.is("not won", x.state(0, 11), -4);
    }
}
