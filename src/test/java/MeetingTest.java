/** Promises 14 to 21: the meeting. */
public final class MeetingTest {
    private static final int BAD = -1, NOT = -2, NONE = -4;
    private static final Due due = new Due("MeetingTest");

    public static void main(String[] args) {
        firstMatches();
        refusedNumbers();
        winRefused();
        winnersGoOn();
        decider();
        unwins();
        champions();
        layRefused();
        lawnsAreFull();
        playersAreBusy();
        playersToldLater();
        behindThoseItComesFrom();
        lawnNumbers();
        clears();
        due.end();
    }

    private static void wins(CroquetLawn x, int... pairs) {
        Tell.wins(due, x, pairs);
    }

    private static void lays(CroquetLawn x, int... pairs) {
        Tell.lays(due, x, pairs);
    }

    private static void players(CroquetLawn x, int m, int one, int two) {
        due.is("match(" + m + ", 0)", x.match(m, 0), one);
        due.is("match(" + m + ", 1)", x.match(m, 1), two);
    }

    private static void firstMatches() {
        CroquetLawn x = new CroquetLawn();
        int[][] pairs = {{0, 1}, {2, 3}, {4, 5}, {6, 7}, {NONE, NONE}, {NONE, NONE}, {NONE, NONE},
            {0, 4}, {2, 6}, {1, 5}, {3, 7}, {NONE, NONE}, {NONE, NONE}, {NONE, NONE}, {NONE, NONE}};
        for (int m = 0; m < 15; m++) {
            players(x, m, pairs[m][0], pairs[m][1]);
            due.is("match(" + m + ", 2)", x.match(m, 2), NONE);
        }
    }

    private static void refusedNumbers() {
        CroquetLawn x = new CroquetLawn();
        int[] numbers = {-1, 15, Integer.MAX_VALUE, Integer.MIN_VALUE};
        for (int number : numbers) {
            due.is("match", x.match(number, 0), BAD);
            due.is("what", x.match(0, number), BAD);
            due.is("win", x.win(number, 0), BAD);
            due.is("win by", x.win(0, number), BAD);
            due.is("unwin", x.unwin(number), BAD);
            due.is("lay", x.lay(number), BAD);
            due.is("hour", x.hour(number), BAD);
            due.is("lawns", x.lawns(number), BAD);
        }
        due.is("what 3", x.match(0, 3), BAD);
        due.is("win by 8", x.win(4, 8), BAD);
        due.is("lawns(0)", x.lawns(0), BAD);
        due.is("lawns(5)", x.lawns(5), BAD);
    }

    private static void winRefused() {
        CroquetLawn x = new CroquetLawn();
        due.is("none of both", x.win(0, 2), NOT);
        due.is("not told", x.win(4, 0), NOT);
        wins(x, 0, 1);
        due.is("played", x.win(0, 1), NOT);
        due.is("played", x.win(0, 0), NOT);
        due.is("one of both told alone", x.win(4, 1), NOT);
        wins(x, 1, 2);
        due.is("lost before", x.win(4, 0), NOT);
        due.is("lost before", x.win(4, 3), NOT);
        wins(x, 4, 2);
        due.is("winner", x.match(4, 2), 2);
        due.is("the other draw is another", x.match(7, 2), NONE);
    }

    private static void winnersGoOn() {
        CroquetLawn x = new CroquetLawn();
        wins(x, 1, 3);
        players(x, 4, NONE, 3);
        wins(x, 0, 1, 2, 5);
        players(x, 4, 1, 3);
        players(x, 5, 5, NONE);
        wins(x, 3, 6);
        players(x, 5, 5, 6);
        wins(x, 5, 6);
        players(x, 6, NONE, 6);
        wins(x, 4, 1);
        players(x, 6, 1, 6);
        wins(x, 7, 4, 8, 6, 9, 5, 10, 7);
        players(x, 11, 4, 6);
        players(x, 12, 5, 7);
        wins(x, 12, 7, 11, 4);
        players(x, 13, 4, 7);
    }

    /** Draw 0 is won by 0, all but the last match of draw 1 is played, which is 0 - 3. */
    private static CroquetLawn nearlyOver() {
        CroquetLawn x = new CroquetLawn();
        wins(x, 0, 0, 1, 3, 2, 4, 3, 7, 4, 0, 5, 7, 6, 0);
        wins(x, 7, 0, 8, 2, 9, 1, 10, 3, 11, 0, 12, 3);
        return x;
    }

    private static void decider() {
        CroquetLawn x = nearlyOver();
        players(x, 14, NONE, NONE);
        due.is("one winner alone", x.win(14, 0), NOT);
        wins(x, 13, 0);
        players(x, 14, NONE, NONE);
        due.is("the same winner", x.win(14, 0), NOT);
        x = nearlyOver();
        wins(x, 13, 3);
        players(x, 14, 0, 3);
        due.is("none of both", x.win(14, 7), NOT);
        wins(x, 14, 0);
        due.is("winner", x.match(14, 2), 0);
        due.is("played", x.win(14, 3), NOT);
        x = new CroquetLawn();
        wins(x, 7, 0, 8, 2, 9, 1, 10, 3, 11, 0, 12, 3, 13, 3);
        players(x, 14, NONE, NONE);
        x = new CroquetLawn();
        wins(x, 0, 1, 1, 2, 2, 5, 3, 6, 4, 2, 5, 5, 6, 5, 7, 4, 8, 6, 9, 1, 10, 3, 11, 4, 12, 1, 13, 4);
        players(x, 14, 5, 4);
        wins(x, 14, 4);
        due.is("champion", x.champion(), 4);
    }

    private static void unwins() {
        CroquetLawn x = nearlyOver();
        due.is("not played", x.unwin(13), NOT);
        due.is("not played", x.unwin(14), NOT);
        wins(x, 13, 3, 14, 3);
        due.is("the last one", x.unwin(14), 1);
        wins(x, 14, 0);
        due.is("of draw 1", x.unwin(13), 2);
        due.is("the decider is gone", x.match(14, 2), NONE);
        due.is("draw 0 stays", x.match(6, 2), 0);
        wins(x, 13, 3, 14, 0);
        due.is("a first match", x.unwin(3), 4);
        due.is("gone", x.match(3, 2), NONE);
        due.is("gone", x.match(5, 2), NONE);
        due.is("gone", x.match(6, 2), NONE);
        due.is("stays", x.match(4, 2), 0);
        due.is("stays", x.match(2, 2), 4);
        due.is("stays", x.match(13, 2), 3);
        players(x, 5, 4, NONE);
        due.is("twice", x.unwin(3), NOT);
        due.is("a second match", x.unwin(11), 2);
        due.is("first ones stay", x.match(7, 2), 0);
        due.is("alone", x.unwin(8), 1);
        int[][] chains = {{0, 4, 6, 14}, {1, 4, 6, 14}, {2, 5, 6, 14}, {3, 5, 6, 14}, {4, 6, 14}, {5, 6, 14}, {6, 14},
            {7, 11, 13, 14}, {8, 11, 13, 14}, {9, 12, 13, 14}, {10, 12, 13, 14}, {11, 13, 14}, {12, 13, 14}, {13, 14}, {14}};
        for (int[] chain : chains) {
            x = nearlyOver();
            wins(x, 13, 3, 14, 3);
            due.is("unwin(" + chain[0] + ")", x.unwin(chain[0]), chain.length);
            int left = 0;
            for (int m = 0; m < 15; m++) {
                left += x.match(m, 2) == NONE ? 0 : 1;
            }
            due.is("left behind unwin(" + chain[0] + ")", left, 15 - chain.length);
            for (int gone : chain) {
                due.is("gone by unwin(" + chain[0] + ")", x.match(gone, 2), NONE);
            }
        }
    }

    private static void champions() {
        CroquetLawn x = nearlyOver();
        due.is("one draw alone", x.champion(), NONE);
        wins(x, 13, 0);
        due.is("both draws", x.champion(), 0);
        due.is("unwin", x.unwin(13), 1);
        due.is("no more", x.champion(), NONE);
        wins(x, 13, 3);
        due.is("two winners", x.champion(), NONE);
        wins(x, 14, 3);
        due.is("of match 14", x.champion(), 3);
        due.is("unwin", x.unwin(14), 1);
        wins(x, 14, 0);
        due.is("of match 14", x.champion(), 0);
    }

    private static void layRefused() {
        CroquetLawn x = new CroquetLawn();
        due.is("lay(14)", x.lay(14), NOT);
        lays(x, 0, 0);
        due.is("laid", x.lay(0), NOT);
        due.is("one from which it comes is not", x.lay(4), NOT);
        lays(x, 1, 0, 4, 1);
        due.is("lay(6)", x.lay(6), NOT);
        due.is("hour(6)", x.hour(6), NONE);
        due.is("clear", x.clear(), 3);
        lays(x, 1, 0);
        due.is("the other one is not", x.lay(4), NOT);
    }

    private static void lawnsAreFull() {
        for (int lawns = 1; lawns <= 4; lawns++) {
            CroquetLawn x = new CroquetLawn();
            x.lawns(lawns);
            for (int m = 0; m < 4; m++) {
                lays(x, m, m / lawns);
            }
        }
        CroquetLawn x = new CroquetLawn();
        lays(x, 3, 0, 2, 0, 1, 1, 0, 1);
        x = new CroquetLawn();
        x.lawns(1);
        int[] all = {0, 7, 1, 8, 2, 9, 3, 10, 4, 5, 6, 11, 12, 13, 14};
        for (int k = 0; k < all.length; k++) {
            lays(x, all[k], k);
        }
        due.is("all of them", x.clear(), 15);
    }

    private static void playersAreBusy() {
        CroquetLawn x = new CroquetLawn();
        x.lawns(4);
        lays(x, 0, 0, 7, 1, 9, 1, 8, 0, 10, 0, 1, 1, 2, 0, 3, 1);
        x = new CroquetLawn();
        x.lawns(4);
        lays(x, 7, 0, 0, 1, 2, 1);
        x = new CroquetLawn();
        x.lawns(4);
        lays(x, 8, 0, 3, 1, 1, 1);
        x = new CroquetLawn();
        x.lawns(4);
        lays(x, 9, 0, 0, 1, 10, 0, 3, 1, 1, 1);
    }

    private static void playersToldLater() {
        CroquetLawn x = new CroquetLawn();
        x.lawns(4);
        lays(x, 0, 0, 1, 0, 4, 1);
        wins(x, 0, 0);
        lays(x, 7, 2);
        due.is("unwin", x.unwin(0), 1);
        lays(x, 9, 1);
        x = new CroquetLawn();
        x.lawns(4);
        wins(x, 1, 3);
        lays(x, 0, 0, 1, 0, 4, 1, 10, 2, 9, 1, 8, 1);
    }

    private static void behindThoseItComesFrom() {
        CroquetLawn x = new CroquetLawn();
        lays(x, 0, 0, 2, 0, 7, 1, 1, 1, 3, 2, 4, 2, 5, 3, 6, 4, 8, 3, 9, 4, 11, 5);
        due.is("14 without draw 1", x.lay(14), NOT);
        lays(x, 10, 5, 12, 6, 13, 7, 14, 8);
        x = new CroquetLawn();
        x.lawns(4);
        lays(x, 7, 0, 8, 0, 9, 0, 10, 0, 11, 1, 12, 1, 13, 2);
        due.is("14 without draw 0", x.lay(14), NOT);
        lays(x, 0, 1, 1, 1, 2, 2, 3, 2, 4, 2, 5, 3, 6, 4, 14, 5);
        x = new CroquetLawn();
        x.lawns(1);
        lays(x, 1, 0, 2, 1, 0, 2, 4, 3, 3, 4, 5, 5, 6, 6);
    }

    private static void lawnNumbers() {
        CroquetLawn x = new CroquetLawn();
        due.is("lawns(1)", x.lawns(1), 2);
        due.is("lawns(4)", x.lawns(4), 1);
        due.is("lawns(0)", x.lawns(0), BAD);
        lays(x, 0, 0);
        due.is("some is laid", x.lawns(3), NOT);
        due.is("BAD first", x.lawns(5), BAD);
        due.is("clear", x.clear(), 1);
        due.is("lawns(3)", x.lawns(3), 4);
        due.is("a win is not in the way", x.win(0, 0), 1);
        due.is("lawns(2)", x.lawns(2), 3);
    }

    private static void clears() {
        CroquetLawn x = new CroquetLawn();
        due.is("none", x.clear(), 0);
        lays(x, 0, 0, 1, 0, 2, 1);
        wins(x, 0, 1);
        due.is("three", x.clear(), 3);
        due.is("hour", x.hour(0), NONE);
        due.is("hour", x.hour(2), NONE);
        due.is("again", x.clear(), 0);
        due.is("results stay", x.match(0, 2), 1);
        lays(x, 2, 0);
    }
}
