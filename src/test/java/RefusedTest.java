import java.util.ArrayList;
import java.util.Arrays;
import java.util.List;

/**
 * "Refusals are answers, of several the first that a call names" and "What is refused changes nothing": calls of all
 * kinds, with right and wrong numbers, on objects in many states. Each refused call is made on an object of its own,
 * which is then looked at all over, beside a twin on which it was not made.
 */
public final class RefusedTest {
    private static final int BAD = -1, NOT = -2, FULL = -3, NONE = -4, CAST = -13;
    private static final int MIN = Integer.MIN_VALUE, MAX = Integer.MAX_VALUE;
    private static final int STATES = 15;
    private static final String[] CALLS = {"game", "stroke", "told", "hit", "state", "found", "count", "index",
        "handicap", "settle", "match", "win", "unwin", "lawns", "lay", "hour"};
    private static final Due due = new Due("RefusedTest");

    private static int refused = 0;

    public static void main(String[] args) {
        firstNamed();
        for (int state = 0; state < STATES; state++) {
            changesNothing(state);
            typedInVain(state);
        }
        due.is("hundreds of calls were refused", refused > 2000 ? 1 : 0, 1);
        due.end();
    }

    /** Of each call with several refusals: one that earns two is answered by the one that is named first. */
    private static void firstNamed() {
        CroquetLawn x = new CroquetLawn();
        due.is("stroke: BAD, no GAME", x.stroke(7, 0), BAD);
        due.is("stroke: BAD ball, no GAME", x.stroke(0, 4), BAD);
        due.is("told: BAD what, none such", x.told(0, 4), BAD);
        due.is("told: BAD s, BAD what", x.told(-1, 4), BAD);
        due.is("state: BAD what, no GAME", x.state(0, 12), BAD);
        due.is("count: BAD, no GAME", x.count(3), BAD);
        due.is("type: BAD n, BAD byte", x.type(31, 9), BAD);
        due.is("match: BAD what, not told", x.match(14, 3), BAD);
        due.is("win: BAD player, not told", x.win(14, 8), BAD);
        due.is("lay: not laid", x.lay(14), NOT);
        x = built(12);
        due.is("stroke: BAD, FULL", x.stroke(0, -1), BAD);
        due.is("stroke: NOT, FULL", x.stroke(2, 0), NOT);
        due.is("stroke: FULL", x.stroke(0, 0), FULL);
        x = built(6);
        due.is("stroke: BAD, WON", x.stroke(3, 4), BAD);
        due.is("stroke: NOT, WON", x.stroke(0, 1), NOT);
        x = built(9);
        due.is("type: BAD, FULL", x.type(31, 1), BAD);
        due.is("type: BAD n, FULL", x.type(32, 0), BAD);
        due.is("type: FULL", x.type(32, 1), FULL);
        due.is("win: BAD, played", x.win(0, 8), BAD);
        due.is("lawns: BAD, some laid", x.lawns(5), BAD);
        due.is("lawns: some laid", x.lawns(4), NOT);
        due.is("lay: BAD", x.lay(15), BAD);
        x = built(2);
        due.is("hit: BAD", x.hit(1), BAD);
        due.is("hit: CAST", x.hit(0), CAST);
        due.is("found: BAD", x.found(1), BAD);
        due.is("found: NOT", x.found(0), NOT);
        due.is("told: NONE", x.told(1, 0), NONE);
    }

    /** An object in one of the states, with few calls enough that there is room for a look. */
    private static CroquetLawn built(int state) {
        CroquetLawn x = new CroquetLawn();
        if (state == 0) {
            return x;
        }
        x.index(0, 500);
        x.game(0, 1);
        switch (state) {
            case 1: Tell.type(x, "p5"); break;
            case 2: strokes(x, "P0"); break;
            case 3: strokes(x, "P0 M P1 H R2"); break;
            case 4: strokes(x, "P0 H M F M"); break;
            case 5: strokes(x, "P0 M P0"); x.found(2); break;
            case 6: strokes(x, "P0 H H H H H H G P1 M P2 H H H H H H G"); break;
            case 7: strokes(x, "P0 M P3 H H H H H H"); break;
            case 8: Tell.laws(x, "p0R;r0N"); strokes(x, "P1 R0 C R0 C H"); Tell.type(x, "p5R;"); break;
            case 9: meeting(x, 9); Tell.type(x, "r2N; p5R" + " ".repeat(22)); break;
            case 10: Tell.type(x, "p4R;r3N" + " ".repeat(20)); meeting(x, 13); Tell.wins(due, x, 13, 3, 14, 0); break;
            case 11: strokes(x, "P1 H H H H H H G P3 H H H H H H G"); x.settle(); break;
            case 12: Tell.goOn(due, x, 150); break;
            case 13: Tell.laws(x, "p99R;p9N"); strokes(x, "P1 R0 C R0 C"); x.found(0); break;
            default: strokes(x, "P0 R1 C R1 C"); x.found(3); meeting(x, 13); Tell.wins(due, x, 13, 0); break;
        }
        return x;
    }

    private static void strokes(CroquetLawn x, String strokes) {
        Tell.strokes(due, x, strokes);
    }

    /** So many matches are won (of draw 0 all by player 0, of draw 1 the last but one by player 3) and laid. */
    private static void meeting(CroquetLawn x, int matches) {
        for (int m = 0; m < matches; m++) {
            Tell.wins(due, x, m, x.match(m, m == 12 ? 1 : 0));
            due.is("lay of " + m, x.lay(m) >= 0 ? 1 : 0, 1);
        }
    }

    private static void changesNothing(int state) {
        int[] untouched = look(built(state));
        int[] firsts = {MIN, -1, 0, 1, 2, 3, 4, 5, 6, 7, 8, 9, 13, 14, 15, 150, 151, 256, MAX};
        int[] seconds = {MIN, -1, 0, 1, 2, 3, 4, 7, 8, 11, 12, 2000, 2001, MAX};
        for (String call : CALLS) {
            for (int a : firsts) {
                for (int b : takesTwo(call) ? seconds : new int[] {0}) {
                    CroquetLawn x = built(state);
                    int answer = made(x, call, a, b);
                    if (isRefusal(call, answer)) {
                        refused++;
                        compare(call + "(" + a + ", " + b + ") in state " + state, look(x), untouched);
                    }
                }
            }
        }
    }

    /** Words of good bytes alone, which a full tape refuses, and such with one byte too low or too high at each place. */
    private static void typedInVain(int state) {
        int[] untouched = look(built(state));
        long good = Tell.number("p7N;r9R;");
        for (int n = -1; n <= 9; n++) {
            for (int place = -1; place < 8; place++) {
                for (long sign : new long[] {0, 31, 127, 255}) {
                    long w = place < 0 ? good : good & ~(255L << 8 * place) | sign << 8 * place;
                    CroquetLawn x = built(state);
                    if (x.type(w, n) < 0) {
                        refused++;
                        compare("type of " + n + " with " + sign + " at " + place + " in state " + state, look(x), untouched);
                    }
                }
            }
        }
    }

    private static boolean takesTwo(String call) {
        return " game stroke told state index match win ".contains(" " + call + " ");
    }

    /** Of a game an answer down to -10 is no refusal: these are free turns of side 0. */
    private static boolean isRefusal(String call, int answer) {
        return call.equals("game") ? answer == -101 : answer < 0;
    }

    private static int made(CroquetLawn x, String call, int a, int b) {
        switch (call) {
            case "game": return x.game(a, b);
            case "stroke": return x.stroke(a, b);
            case "told": return x.told(a, b);
            case "hit": return x.hit(a);
            case "state": return x.state(a, b);
            case "found": return x.found(a);
            case "count": return x.count(a);
            case "index": return x.index(a, b);
            case "handicap": return x.handicap(a);
            case "settle": return x.settle();
            case "match": return x.match(a, b);
            case "win": return x.win(a, b);
            case "unwin": return x.unwin(a);
            case "lawns": return x.lawns(a);
            case "lay": return x.lay(a);
            default: return x.hour(a);
        }
    }

    private static void compare(String call, int[] got, int[] want) {
        if (!Arrays.equals(got, want)) {
            for (int k = 0; k < Math.min(got.length, want.length); k++) {
                due.is("look " + k + " behind the refused " + call, got[k], want[k]);
            }
            due.is("so many answers behind the refused " + call, got.length, want.length);
        }
    }

    /** What an object answers, first to calls that only ask, then to such as show what is hidden in it. */
    private static int[] look(CroquetLawn x) {
        List<Integer> all = new ArrayList<>();
        int size = x.count(0);
        for (int what = 0; what < 3; what++) {
            all.add(x.count(what));
        }
        for (int n : new int[] {0, size / 2, size - 1, size}) {
            for (int what = 0; what < 12; what++) {
                all.add(x.state(n, what));
            }
        }
        for (int s = size - 1; s >= size - 7; s--) {
            for (int what = 0; what < 4; what++) {
                all.add(x.told(s, what));
            }
            all.add(x.hit(s));
        }
        askMeeting(x, all);
        showHidden(x, all, size);
        return all.stream().mapToInt(Integer::intValue).toArray();
    }

    private static void askMeeting(CroquetLawn x, List<Integer> all) {
        for (int m = 0; m < 15; m++) {
            for (int what = 0; what < 3; what++) {
                all.add(x.match(m, what));
            }
            all.add(x.hour(m));
        }
        all.add(x.champion());
        for (int p = 0; p < 8; p++) {
            all.add(x.handicap(p));
        }
    }

    private static void showHidden(CroquetLawn x, List<Integer> all, int size) {
        all.add(x.type(Tell.number("p"), 1));
        all.add(x.settle());
        all.add(x.stroke(6, 0));
        all.add(x.stroke(4, 0));
        all.add(x.stroke(0, 2));
        for (int s = size - 1; s >= size - 7; s--) {
            all.add(x.found(s));
        }
        all.add(x.count(0));
        all.add(x.laws());
        for (int p = 0; p < 8; p++) {
            all.add(x.index(p, 1000));
        }
        for (int m = 14; m >= 0; m--) {
            all.add(x.lay(m));
        }
        all.add(x.clear());
        all.add(x.lawns(1));
        all.add(x.unwin(0));
        all.add(x.unwin(7));
    }
}
