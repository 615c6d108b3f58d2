/** Promises 2 and 11 to 13: indexes, handicaps, free turns and what a result moves. */
public final class PlayersTest {
    private static final int BAD = -1, NOT = -2, NONE = -4;
    private static final String SIDE_0_WINS = "P0 H H H H H H G P1 M P2 H H H H H H G";
    private static final String SIDE_1_WINS = "P0 M P1 H H H H H H G P0 M P3 H H H H H H G";
    private static final Due due = new Due("PlayersTest");

    public static void main(String[] args) {
        indexes();
        handicaps();
        freeTurns();
        freeTurnsStay();
        settleRefused();
        settled();
        indexesAsOfTheEnd();
        gameIsGone();
        due.end();
    }

    private static void indexes() {
        CroquetLawn x = new CroquetLawn();
        due.is("player -1", x.index(-1, 5), BAD);
        due.is("player 8", x.index(8, 5), BAD);
        due.is("index -1", x.index(0, -1), BAD);
        due.is("index 2001", x.index(0, 2001), BAD);
        due.is("index MIN", x.index(0, Integer.MIN_VALUE), BAD);
        due.is("nothing changed", x.index(0, 0), 1000);
        due.is("lowest", x.index(0, 2000), 0);
        due.is("highest", x.index(0, 3), 2000);
        due.is("player 7", x.index(7, 4), 1000);
        due.is("each its own", x.index(0, 3), 3);
        due.is("each its own", x.index(7, 4), 4);
    }

    private static void handicaps() {
        CroquetLawn x = new CroquetLawn();
        int[][] pairs = {{0, 20}, {99, 20}, {100, 19}, {1000, 10}, {1099, 10}, {1100, 9}, {1999, 1}, {2000, 0}};
        for (int[] pair : pairs) {
            x.index(6, pair[0]);
            due.is("handicap of " + pair[0], x.handicap(6), pair[1]);
        }
        due.is("handicap(-1)", x.handicap(-1), -101);
        due.is("handicap(8)", x.handicap(8), -101);
        due.is("handicap(MAX)", x.handicap(Integer.MAX_VALUE), -101);
    }

    private static void freeTurns() {
        int[][] rows = {{1000, 1000, 0}, {1000, 900, 1}, {1000, 800, 1}, {1000, 700, 2}, {900, 1000, -1},
            {700, 1000, -2}, {2000, 0, 10}, {0, 2000, -10}, {1000, 1099, 0}, {1099, 999, 1}};
        for (int[] row : rows) {
            CroquetLawn x = new CroquetLawn();
            x.index(3, row[0]);
            x.index(4, row[1]);
            due.is("game of " + row[0] + " and " + row[1], x.game(3, 4), row[2]);
            due.is("free of side 0", x.state(0, 9), Math.max(0, -row[2]));
            due.is("free of side 1", x.state(0, 10), Math.max(0, row[2]));
        }
    }

    private static void freeTurnsStay() {
        CroquetLawn x = new CroquetLawn();
        x.index(1, 500);
        due.is("game", x.game(0, 1), 3);
        x.index(1, 1000);
        Tell.strokes(due, x, "P0 M P1 M");
        due.is("as told when it began", x.state(4, 10), 3);
        Tell.strokes(due, x, "F");
    }

    private static void settleRefused() {
        CroquetLawn x = new CroquetLawn();
        due.is("no game", x.settle(), NOT);
        due.is("game", x.game(0, 1), 0);
        due.is("not won", x.settle(), NOT);
        Tell.strokes(due, x, "P0 H H H H H H G");
        due.is("half won", x.settle(), NOT);
        due.is("nothing changed", x.count(0), 8);
        due.is("index", x.index(0, 1000), 1000);
    }

    private static void result(int winner, int loser, int want, int winnerThen, int loserThen) {
        String name = "settle of " + winner + " and " + loser;
        CroquetLawn x = new CroquetLawn();
        x.game(5, 2);
        Tell.strokes(due, x, SIDE_0_WINS);
        x.index(5, winner);
        x.index(2, loser);
        due.is(name, x.settle(), want);
        due.is(name + ": winner", x.index(5, 0), winnerThen);
        due.is(name + ": loser", x.index(2, 0), loserThen);
        x.game(2, 5);
        Tell.strokes(due, x, SIDE_1_WINS);
        x.index(5, winner);
        x.index(2, loser);
        due.is(name + " by side 1", x.settle(), want);
        due.is(name + " by side 1: winner", x.index(5, 0), winnerThen);
        due.is(name + " by side 1: loser", x.index(2, 0), loserThen);
        due.is("the others", x.index(0, 0), 1000);
    }

    private static void settled() {
        result(1000, 1000, 10, 1010, 990);
        result(1000, 1019, 10, 1010, 1009);
        result(1019, 1000, 10, 1029, 990);
        result(1020, 1000, 9, 1029, 991);
        result(1000, 1020, 11, 1011, 1009);
        result(1000, 1039, 11, 1011, 1028);
        result(1000, 1180, 19, 1019, 1161);
        result(1000, 1200, 19, 1019, 1181);
        result(1180, 1000, 1, 1181, 999);
        result(1200, 1000, 1, 1201, 999);
        result(2000, 0, 1, 2000, 0);
        result(0, 2000, 19, 19, 1981);
        result(1995, 1995, 10, 2000, 1985);
        result(5, 5, 10, 15, 0);
        result(0, 7, 10, 10, 0);
    }

    private static void indexesAsOfTheEnd() {
        CroquetLawn x = new CroquetLawn();
        x.game(0, 1);
        Tell.strokes(due, x, SIDE_0_WINS);
        due.is("settle", x.settle(), 10);
        x.game(0, 1);
        Tell.strokes(due, x, SIDE_0_WINS);
        due.is("settle of 1010 and 990", x.settle(), 9);
        due.is("winner", x.index(0, 0), 1019);
        due.is("loser", x.index(1, 0), 981);
    }

    private static void gameIsGone() {
        CroquetLawn x = new CroquetLawn();
        x.game(0, 1);
        Tell.strokes(due, x, "P1 H H H H H H G P3 H H H H H H G");
        due.is("settle", x.settle(), 10);
        due.is("again", x.settle(), NOT);
        due.is("count(0)", x.count(0), 0);
        due.is("count(1)", x.count(1), 0);
        due.is("count(2)", x.count(2), 0);
        due.is("stroke", x.stroke(0, 0), NOT);
        due.is("told", x.told(0, 0), NONE);
        due.is("hit", x.hit(0), BAD);
        due.is("state", x.state(0, 0), BAD);
        due.is("found", x.found(0), BAD);
        due.is("game by the moved indexes 1010 and 990", x.game(1, 0), 1);
        Tell.state(due, x, 0, 0, NONE, 0, 0, NONE, 0, 0, 0, 0, 0, 1, NONE);
    }
}
