/** The boundary cases that the document names of the meeting: section 3 of its terms, promises 1 and 14 to 21. */
public final class MeetingEdgesTest {
    private static final int BAD = -1, NOT = -2, NONE = -4;
    private static final int[] NO_MATCH = {Integer.MIN_VALUE, -256, -2, -1, 15, 16, 256, 65536, Integer.MAX_VALUE};
    private static final int[] FROM = {NONE, NONE, NONE, NONE, 0, 2, 4, NONE, NONE, NONE, NONE, 7, 9, 11, 6};
    private static final Due due = new Due("MeetingEdgesTest");

    public static void main(String[] args) {
        newMeeting();
        matchNumbers();
        whatNumbers();
        playerNumbers();
        oneOfBothAlone();
        playedWhenBothAreTold();
        wasPlayed();
        notOneOfBoth();
        deciderIfTheyAreTwo();
        deciderOfOneDrawAlone();
        unwinNotPlayed();
        unwinOfAll();
        unwinLetsPlayAgain();
        noChampion();
        championOfBoth();
        lawnNumbers();
        lawnsWhenSomeIsLaid();
        layIsLaid();
        layFromNotLaid();
        layOfDeciderThatIsNotNeeded();
        firstHours();
        lawnIsFree();
        playersAreFree();
        playersThatAreTold();
        behindItsMatches();
        hourOfNotLaid();
        clearEdges();
        due.end();
    }

    /** In draw 0 player 0 wins all; in draw 1 player 3 does, but for its last match, which is not played. */
    private static CroquetLawn allButOne() {
        CroquetLawn x = new CroquetLawn();
        wins(x, 0, 0, 1, 2, 2, 4, 3, 6, 4, 0, 5, 4, 6, 0);
        wins(x, 7, 0, 8, 2, 9, 1, 10, 3, 11, 0, 12, 3);
        return x;
    }

    private static void wins(CroquetLawn x, int... pairs) {
        Tell.wins(due, x, pairs);
    }

    private static void lays(CroquetLawn x, int... pairs) {
        Tell.lays(due, x, pairs);
    }

    private static CroquetLawn withLawns(int lawns) {
        CroquetLawn x = new CroquetLawn();
        due.is("lawns(" + lawns + ")", x.lawns(lawns), 2);
        return x;
    }

    /** Promise 1: "no MATCH played, none laid"; terms: "2 at first". */
    private static void newMeeting() {
        CroquetLawn x = new CroquetLawn();
        for (int m = 0; m < 15; m++) {
            due.is("winner of " + m, x.match(m, 2), NONE);
            due.is("hour of " + m, x.hour(m), NONE);
            due.is("unwin of " + m, x.unwin(m), NOT);
        }
        due.is("champion", x.champion(), NONE);
        due.is("clear", x.clear(), 0);
        due.is("lawns", x.lawns(1), 2);
    }

    /** Terms: "DRAW 0 has 0 .. 6, DRAW 1 7 .. 13", and 14; else BAD, ahead of all. */
    private static void matchNumbers() {
        CroquetLawn x = new CroquetLawn();
        for (int m : NO_MATCH) {
            due.is("match " + m, x.match(m, 0), BAD);
            due.is("win " + m, x.win(m, 0), BAD);
            due.is("unwin " + m, x.unwin(m), BAD);
            due.is("lay " + m, x.lay(m), BAD);
            due.is("hour " + m, x.hour(m), BAD);
        }
        due.is("none laid", x.clear(), 0);
        due.is("match 0", x.match(0, 0), 0);
        due.is("match 13", x.match(13, 0), NONE);
        due.is("match 14", x.match(14, 0), NONE);
        due.is("lay 14", x.lay(14), NOT);
        due.is("unwin 14", x.unwin(14), NOT);
        due.is("hour 14", x.hour(14), NONE);
    }

    /** Promise 14: what is 0, 1, 2; BAD ahead of NONE. */
    private static void whatNumbers() {
        CroquetLawn x = new CroquetLawn();
        for (int what : new int[] {Integer.MIN_VALUE, -1, 3, 256, Integer.MAX_VALUE}) {
            due.is("match(0, " + what + ")", x.match(0, what), BAD);
            due.is("match(14, " + what + ")", x.match(14, what), BAD);
            due.is("match(15, " + what + ")", x.match(15, what), BAD);
        }
    }

    /** Promise 15: "BAD": a player is 0 .. 7; ahead of NOT. */
    private static void playerNumbers() {
        CroquetLawn x = new CroquetLawn();
        wins(x, 1, 2);
        for (int p : new int[] {Integer.MIN_VALUE, -4, -1, 8, 256, Integer.MAX_VALUE}) {
            due.is("win(0, " + p + ")", x.win(0, p), BAD);
            due.is("one that was played", x.win(1, p), BAD);
            due.is("one that is not told", x.win(14, p), BAD);
        }
        due.is("not played", x.match(0, 2), NONE);
        due.is("player 7", x.win(3, 7), 1);
        due.is("player 0", x.win(0, 0), 1);
    }

    /** Promise 14: "NONE: not told": each of both for itself, in all matches but 14. */
    private static void oneOfBothAlone() {
        for (int m = 4; m < 14; m++) {
            if (FROM[m] == NONE) {
                continue;
            }
            for (int which = 0; which < 2; which++) {
                CroquetLawn x = allButOne();
                wins(x, 13, 3);
                int then = x.match(m, 1 - which);
                x.unwin(FROM[m] + which);
                due.is("the one of " + m, x.match(m, which), NONE);
                due.is("the other one of " + m, x.match(m, 1 - which), then);
                due.is("the winner of " + m, x.match(m, 2), NONE);
            }
        }
    }

    /** Terms: "A MATCH can be played when both are told": with none, with one, with both. */
    private static void playedWhenBothAreTold() {
        for (int m = 4; m < 14; m++) {
            if (FROM[m] == NONE) {
                continue;
            }
            CroquetLawn x = allButOne();
            wins(x, 13, 3);
            int one = x.match(m, 0);
            int two = x.match(m, 1);
            x.unwin(FROM[m]);
            due.is("one alone is told in " + m, x.win(m, two), NOT);
            x.unwin(FROM[m] + 1);
            due.is("none is told in " + m, x.win(m, one), NOT);
            wins(x, FROM[m], one);
            due.is("the other one alone is told in " + m, x.win(m, one), NOT);
            wins(x, FROM[m] + 1, two, m, two);
        }
    }

    /** Promise 15: "NOT: .. was played": by the same and by the other one, in all matches. */
    private static void wasPlayed() {
        CroquetLawn x = allButOne();
        wins(x, 13, 3, 14, 3);
        for (int m = 0; m < 15; m++) {
            int winner = x.match(m, 2);
            due.is("the first of " + m, x.win(m, x.match(m, 0)), NOT);
            due.is("the second of " + m, x.win(m, x.match(m, 1)), NOT);
            due.is("the winner of " + m, x.match(m, 2), winner);
        }
    }

    /** Promise 15: "NOT: .. it is not one of both": all other players. */
    private static void notOneOfBoth() {
        for (int m = 0; m < 15; m++) {
            CroquetLawn x = allButOne();
            wins(x, 13, 3, 14, 3);
            x.unwin(m);
            int one = x.match(m, 0);
            int two = x.match(m, 1);
            for (int p = 0; p < 8; p++) {
                if (p != one && p != two) {
                    due.is("win(" + m + ", " + p + ")", x.win(m, p), NOT);
                }
            }
            due.is("not played", x.match(m, 2), NONE);
            wins(x, m, one);
            x.unwin(m);
            wins(x, m, two);
        }
    }

    /** Terms: "MATCH 14: the winners of both DRAWS, if they are two". */
    private static void deciderIfTheyAreTwo() {
        CroquetLawn x = allButOne();
        wins(x, 13, 0);
        for (int p = 0; p < 8; p++) {
            due.is("one has won both: win(14, " + p + ")", x.win(14, p), NOT);
        }
        for (int what = 0; what < 3; what++) {
            due.is("one has won both: match(14, " + what + ")", x.match(14, what), NONE);
        }
        due.is("unwin(14)", x.unwin(14), NOT);
        due.is("unwin(13)", x.unwin(13), 1);
        wins(x, 13, 3);
        due.is("of draw 0", x.match(14, 0), 0);
        due.is("of draw 1", x.match(14, 1), 3);
        due.is("winner", x.match(14, 2), NONE);
    }

    /** The same with the winner of one draw alone. */
    private static void deciderOfOneDrawAlone() {
        for (int draw = 0; draw < 2; draw++) {
            CroquetLawn x = allButOne();
            if (draw == 1) {
                wins(x, 13, 3);
                due.is("unwin(6)", x.unwin(6), 1);
            }
            for (int what = 0; what < 3; what++) {
                due.is("with draw " + draw + " alone: match(14, " + what + ")", x.match(14, what), NONE);
            }
            due.is("win by 0", x.win(14, 0), NOT);
            due.is("win by 3", x.win(14, 3), NOT);
        }
    }

    /** Promise 16: "NOT: it was not played". */
    private static void unwinNotPlayed() {
        CroquetLawn x = allButOne();
        due.is("unwin(13)", x.unwin(13), NOT);
        due.is("unwin(14)", x.unwin(14), NOT);
        due.is("unwin(11)", x.unwin(11), 1);
        due.is("again", x.unwin(11), NOT);
        due.is("the one ahead of it", x.unwin(7), 1);
        due.is("again", x.unwin(7), NOT);
    }

    /** Promise 16: "nor those that come of it: how many results went", down to none that is played. */
    private static void unwinOfAll() {
        CroquetLawn x = allButOne();
        wins(x, 13, 3, 14, 0);
        int[] rows = {0, 4, 2, 2, 1, 1, 3, 1, 7, 3, 9, 2, 8, 1, 10, 1};
        for (int k = 0; k < rows.length; k += 2) {
            due.is("unwin(" + rows[k] + ")", x.unwin(rows[k]), rows[k + 1]);
        }
        for (int m = 0; m < 15; m++) {
            due.is("winner of " + m, x.match(m, 2), NONE);
        }
    }

    /** What was not played can be played, by the other one too; what comes of it is told by that. */
    private static void unwinLetsPlayAgain() {
        CroquetLawn x = allButOne();
        due.is("unwin(0)", x.unwin(0), 3);
        wins(x, 0, 1);
        due.is("match 4", x.match(4, 0), 1);
        due.is("lost now", x.win(4, 0), NOT);
        wins(x, 4, 1, 6, 4);
        due.is("draw 1 is another", x.match(11, 2), 0);
    }

    /** Promise 17: "NONE": as long as nobody is. */
    private static void noChampion() {
        CroquetLawn x = new CroquetLawn();
        due.is("none has won a draw", x.champion(), NONE);
        x = allButOne();
        due.is("draw 0 alone", x.champion(), NONE);
        wins(x, 13, 3);
        due.is("two winners", x.champion(), NONE);
        x.unwin(6);
        due.is("draw 1 alone", x.champion(), NONE);
        wins(x, 6, 0, 14, 0);
        due.is("of match 14", x.champion(), 0);
        x.unwin(1);
        due.is("gone with match 6", x.champion(), NONE);
    }

    /** Terms: "THE CHAMPION is who won both DRAWS": each player. */
    private static void championOfBoth() {
        for (int p = 0; p < 8; p++) {
            CroquetLawn x = new CroquetLawn();
            for (int m = 0; m < 14; m++) {
                due.is("champion ahead of " + m, x.champion(), NONE);
                int one = x.match(m, 0);
                wins(x, m, x.match(m, 1) == p ? p : one);
            }
            due.is("champion " + p, x.champion(), p);
            due.is("match 14", x.match(14, 0), NONE);
        }
    }

    /** Terms: "L of them, 1 .. 4"; promise 18: "what they were. BAD". */
    private static void lawnNumbers() {
        CroquetLawn x = new CroquetLawn();
        int was = 2;
        for (int n = -2; n <= 7; n++) {
            boolean good = n >= 1 && n <= 4;
            due.is("lawns(" + n + ")", x.lawns(n), good ? was : BAD);
            was = good ? n : was;
        }
        for (int far : new int[] {Integer.MIN_VALUE, -256, 257, 65537, Integer.MAX_VALUE}) {
            due.is("lawns(" + far + ")", x.lawns(far), BAD);
        }
        due.is("nothing changed", x.lawns(4), 4);
    }

    /** Promise 18: "NOT: some MATCH is laid": each one alone, BAD ahead of it. */
    private static void lawnsWhenSomeIsLaid() {
        for (int m = 0; m < 11; m++) {
            if (FROM[m] != NONE) {
                continue;
            }
            CroquetLawn x = new CroquetLawn();
            lays(x, m, 0);
            for (int n = 0; n <= 5; n++) {
                due.is("lawns(" + n + ") with " + m + " laid", x.lawns(n), n < 1 || n > 4 ? BAD : NOT);
            }
            due.is("clear", x.clear(), 1);
            due.is("lawns then", x.lawns(1), 2);
        }
    }

    /** Promise 19: "NOT: it is": its hour stays, though an earlier one may be free now. */
    private static void layIsLaid() {
        CroquetLawn x = new CroquetLawn();
        lays(x, 0, 0, 1, 0, 2, 1);
        for (int m = 0; m < 3; m++) {
            due.is("lay(" + m + ")", x.lay(m), NOT);
            due.is("hour(" + m + ")", x.hour(m), m / 2);
        }
        due.is("so many are laid", x.clear(), 3);
    }

    /** Promise 19: "NOT: .. one from which it comes is not": the first, the second, both; results do not matter. */
    private static void layFromNotLaid() {
        for (int m = 4; m < 14; m++) {
            if (FROM[m] == NONE) {
                continue;
            }
            for (int missing = 1; missing < 4; missing++) {
                CroquetLawn x = allButOne();
                wins(x, 13, 3, 14, 3);
                layUpTo(x, FROM[m], missing & 1);
                layUpTo(x, FROM[m] + 1, missing >> 1);
                due.is("lay(" + m + ") without " + missing, x.lay(m), NOT);
                due.is("hour(" + m + ")", x.hour(m), NONE);
            }
        }
        CroquetLawn x = withLawns(4);
        layUpTo(x, 6, 0);
        due.is("14 without 13", x.lay(14), NOT);
        x = withLawns(4);
        layUpTo(x, 13, 0);
        due.is("14 without 6", x.lay(14), NOT);
        layUpTo(x, 6, 0);
        due.is("14", x.lay(14) > 0 ? 1 : 0, 1);
    }

    /** Promise 19 refuses no more than that: match 14 is laid even if one has won both draws, so that it can't be played. */
    private static void layOfDeciderThatIsNotNeeded() {
        CroquetLawn x = allButOne();
        wins(x, 13, 0);
        layUpTo(x, 6, 0);
        layUpTo(x, 13, 0);
        int last = Math.max(x.hour(6), x.hour(13));
        due.is("14", x.lay(14), last + 1);
        due.is("its hour", x.hour(14), last + 1);
        due.is("it can't be played", x.win(14, 0), NOT);
        due.is("all are laid", x.clear(), 15);
    }

    /** Lays a match with all from which it comes, or, where it is to be missing, only these. */
    private static void layUpTo(CroquetLawn x, int m, int missing) {
        if (FROM[m] != NONE) {
            layUpTo(x, FROM[m], 0);
            layUpTo(x, FROM[m] + 1, 0);
        }
        if (missing == 0) {
            due.is("laid " + m, x.lay(m) >= 0 ? 1 : 0, 1);
        }
    }

    /** Terms: "each at the first HOUR": hours begin with 0, and an earlier one with room is taken behind a later one. */
    private static void firstHours() {
        for (int m : new int[] {0, 1, 2, 3, 7, 8, 9, 10}) {
            lays(new CroquetLawn(), m, 0);
        }
        CroquetLawn x = new CroquetLawn();
        lays(x, 0, 0, 7, 1, 9, 1, 1, 0, 8, 2, 2, 2, 10, 3, 3, 4);
        x = withLawns(1);
        lays(x, 0, 0, 1, 1, 4, 2, 2, 3);
    }

    /** Terms: "at which a lawn (L of them, 1 .. 4 ..) is free": the last one of them, and one more. */
    private static void lawnIsFree() {
        int[][] hours = {{0, 1, 2, 3}, {0, 0, 1, 1}, {0, 0, 0, 1}, {0, 0, 0, 0}};
        for (int lawns = 1; lawns <= 4; lawns++) {
            CroquetLawn x = withLawns(lawns);
            CroquetLawn y = withLawns(lawns);
            for (int m = 0; m < 4; m++) {
                lays(x, m, hours[lawns - 1][m]);
                lays(y, 10 - m, hours[lawns - 1][m]);
            }
        }
    }

    /** Terms: "both PLAYERS are": of each two first matches, those with a player in common are in two hours. */
    private static void playersAreFree() {
        int[] firsts = {0, 1, 2, 3, 7, 8, 9, 10};
        for (int one : firsts) {
            for (int two : firsts) {
                if (one != two) {
                    CroquetLawn x = withLawns(4);
                    boolean common = x.match(one, 0) == x.match(two, 0) || x.match(one, 0) == x.match(two, 1)
                        || x.match(one, 1) == x.match(two, 0) || x.match(one, 1) == x.match(two, 1);
                    lays(x, one, 0, two, common ? 1 : 0);
                }
            }
        }
    }

    /** Terms: "(those that are told)": a player that is not told yet is in nobody's way. */
    private static void playersThatAreTold() {
        CroquetLawn x = withLawns(4);
        lays(x, 0, 0, 1, 0, 4, 1, 7, 1, 8, 1, 9, 1, 10, 2);
        x = withLawns(4);
        wins(x, 0, 0);
        lays(x, 0, 0, 1, 0, 4, 1, 7, 2);
        x = withLawns(4);
        wins(x, 1, 3);
        lays(x, 0, 0, 1, 0, 4, 1, 7, 1, 10, 2);
        x = withLawns(4);
        wins(x, 0, 0);
        lays(x, 1, 0, 8, 1, 0, 0, 7, 1, 2, 0, 3, 0, 4, 2);
    }

    /** Terms: "behind the HOUR of those MATCHES from which it comes": of the later one, and no hour later. */
    private static void behindItsMatches() {
        CroquetLawn x = withLawns(1);
        lays(x, 0, 0, 2, 1, 1, 2, 4, 3);
        x = withLawns(1);
        lays(x, 1, 0, 2, 1, 0, 2, 4, 3);
        x = withLawns(4);
        lays(x, 0, 0, 1, 0, 2, 0, 3, 0, 4, 1, 5, 1, 6, 2);
        lays(x, 7, 1, 8, 1, 9, 2, 10, 2, 11, 2, 12, 3, 13, 4, 14, 5);
        due.is("all are laid", x.clear(), 15);
        x = withLawns(4);
        lays(x, 0, 0, 7, 1, 8, 0, 9, 1, 11, 2, 10, 0, 12, 2, 13, 3, 1, 1, 2, 0, 3, 1, 4, 2, 5, 2, 6, 3, 14, 4);
    }

    /** Promise 20: "BAD; NONE: it is not laid". */
    private static void hourOfNotLaid() {
        CroquetLawn x = new CroquetLawn();
        lays(x, 0, 0);
        for (int m = 1; m < 15; m++) {
            due.is("hour(" + m + ")", x.hour(m), NONE);
        }
        due.is("hour(0)", x.hour(0), 0);
        due.is("clear", x.clear(), 1);
        due.is("hour(0) then", x.hour(0), NONE);
    }

    /** Promise 21: "how many were": none, all; results and lawns stay. */
    private static void clearEdges() {
        CroquetLawn x = allButOne();
        due.is("none", x.clear(), 0);
        due.is("lawns", x.lawns(1), 2);
        layUpTo(x, 6, 0);
        layUpTo(x, 13, 0);
        due.is("the last one", x.lay(14), 14);
        due.is("all", x.clear(), 15);
        due.is("none then", x.clear(), 0);
        for (int m = 0; m < 15; m++) {
            due.is("hour(" + m + ")", x.hour(m), NONE);
        }
        due.is("results stay", x.match(12, 2), 3);
        due.is("lawns stay", x.lawns(3), 1);
    }
}
