import java.util.ArrayList;
import java.util.Arrays;
import java.util.List;

/**
 * "Refusals are answers, of several the first that a call names" and "What is refused changes nothing": calls of all
 * kinds, with right and wrong numbers, on objects in many states. Each refused call is made on an object of its own,
 * which is then looked at all over, beside a twin on which it was not made.
 */
public final class RefusedTest {
    private static final int BAD = -1, NOT = -2, FULL = -3, NONE = -4, CAST = -13;
    private static final int MIN = Integer.MIN_VALUE, MAX = Integer.MAX_VALUE;
    private static final String[] CALLS = {"game", "stroke", "told", "hit", "state", "found", "count", "index",
        "handicap", "settle", "match", "win", "unwin", "lawns", "lay", "hour"};
    private static final Due due = new Due("RefusedTest");

    private static int refused = 0;

    public static void main(String[] args) {
        firstNamed();
        for (int state = 0; state < States.ALL; state++) {
            changesNothing(state);
            typedInVain(state);
        }
        due.is("hundreds of calls were refused", refused > 2000 ? 1 : 0, 1);
        due.end();
    }

    /** Of each call with several refusals: one that earns two is answered by the one that is named first. */
    private static void firstNamed() {
        CroquetLawn x = new CroquetLawn();
        due.is("stroke: BAD, no GAME", x.stroke(7, 0), BAD);
        due.is("stroke: BAD ball, no GAME", x.stroke(0, 4), BAD);
        due.is("told: BAD what, none such", x.told(0, 4), BAD);
        due.is("told: BAD s, BAD what", x.told(-1, 4), BAD);
        due.is("state: BAD what, no GAME", x.state(0, 12), BAD);
        due.is("count: BAD, no GAME", x.count(3), BAD);
        due.is("type: BAD n, BAD byte", x.type(31, 9), BAD);
        due.is("match: BAD what, not told", x.match(14, 3), BAD);
        due.is("win: BAD player, not told", x.win(14, 8), BAD);
        due.is("lay: not laid", x.lay(14), NOT);
        x = States.built(due, 12);
        due.is("stroke: BAD, FULL", x.stroke(0, -1), BAD);
        due.is("stroke: NOT, FULL", x.stroke(2, 0), NOT);
        due.is("stroke: FULL", x.stroke(0, 0), FULL);
        x = States.built(due, 6);
        due.is("stroke: BAD, WON", x.stroke(3, 4), BAD);
        due.is("stroke: NOT, WON", x.stroke(0, 1), NOT);
        x = States.built(due, 9);
        due.is("type: BAD, FULL", x.type(31, 1), BAD);
        due.is("type: BAD n, FULL", x.type(32, 0), BAD);
        due.is("type: FULL", x.type(32, 1), FULL);
        due.is("win: BAD, played", x.win(0, 8), BAD);
        due.is("lawns: BAD, some laid", x.lawns(5), BAD);
        due.is("lawns: some laid", x.lawns(4), NOT);
        due.is("lay: BAD", x.lay(15), BAD);
        x = States.built(due, 2);
        due.is("hit: BAD", x.hit(1), BAD);
        due.is("hit: CAST", x.hit(0), CAST);
        due.is("found: BAD", x.found(1), BAD);
        due.is("found: NOT", x.found(0), NOT);
        due.is("told: NONE", x.told(1, 0), NONE);
    }

    private static void changesNothing(int state) {
        int[] untouched = look(States.built(due, state));
        int[] firsts = {MIN, -1, 0, 1, 2, 3, 4, 5, 6, 7, 8, 9, 13, 14, 15, 150, 151, 256, MAX};
        int[] seconds = {MIN, -1, 0, 1, 2, 3, 4, 7, 8, 11, 12, 2000, 2001, MAX};
        for (String call : CALLS) {
            for (int a : firsts) {
                for (int b : States.takesTwo(call) ? seconds : new int[] {0}) {
                    CroquetLawn x = States.built(due, state);
                    int answer = States.made(x, call, a, b);
                    if (isRefusal(call, answer)) {
                        refused++;
                        compare(call + "(" + a + ", " + b + ") in state " + state, look(x), untouched);
                    }
                }
            }
        }
    }

    /** Words of good bytes alone, which a full tape refuses, and such with one byte too low or too high at each place. */
    private static void typedInVain(int state) {
        int[] untouched = look(States.built(due, state));
        long good = Tell.number("p7N;r9R;");
        for (int n = -1; n <= 9; n++) {
            for (int place = -1; place < 8; place++) {
                for (long sign : new long[] {0, 31, 127, 255}) {
                    long w = place < 0 ? good : good & ~(255L << 8 * place) | sign << 8 * place;
                    CroquetLawn x = States.built(due, state);
                    if (x.type(w, n) < 0) {
                        refused++;
                        compare("type of " + n + " with " + sign + " at " + place + " in state " + state, look(x), untouched);
                    }
                }
            }
        }
    }

    /** Of a game an answer down to -10 is no refusal: these are free turns of side 0. */
    private static boolean isRefusal(String call, int answer) {
        return call.equals("game") ? answer == -101 : answer < 0;
    }

    private static void compare(String call, int[] got, int[] want) {
        if (!Arrays.equals(got, want)) {
            for (int k = 0; k < Math.min(got.length, want.length); k++) {
                due.is("look " + k + " behind the refused " + call, got[k], want[k]);
            }
            due.is("so many answers behind the refused " + call, got.length, want.length);
        }
    }

    /** What an object answers, first to calls that only ask, then to such as show what is hidden in it. */
    private static int[] look(CroquetLawn x) {
        List<Integer> all = new ArrayList<>();
        int size = x.count(0);
        for (int what = 0; what < 3; what++) {
            all.add(x.count(what));
        }
        for (int n : new int[] {0, size / 2, size - 1, size}) {
            for (int what = 0; what < 12; what++) {
                all.add(x.state(n, what));
            }
        }
        for (int s = size - 1; s >= size - 7; s--) {
            for (int what = 0; what < 4; what++) {
                all.add(x.told(s, what));
            }
            all.add(x.hit(s));
        }
        askMeeting(x, all);
        showHidden(x, all, size);
        return all.stream().mapToInt(Integer::intValue).toArray();
    }

    private static void askMeeting(CroquetLawn x, List<Integer> all) {
        for (int m = 0; m < 15; m++) {
            for (int what = 0; what < 3; what++) {
                all.add(x.match(m, what));
            }
            all.add(x.hour(m));
        }
        all.add(x.champion());
        for (int p = 0; p < 8; p++) {
            all.add(x.handicap(p));
        }
    }

    private static void showHidden(CroquetLawn x, List<Integer> all, int size) {
        all.add(x.type(Tell.number("p"), 1));
        all.add(x.settle());
        all.add(x.stroke(6, 0));
        all.add(x.stroke(4, 0));
        all.add(x.stroke(0, 2));
        for (int s = size - 1; s >= size - 7; s--) {
            all.add(x.found(s));
        }
        all.add(x.count(0));
        all.add(x.laws());
        for (int p = 0; p < 8; p++) {
            all.add(x.index(p, 1000));
        }
        for (int m = 14; m >= 0; m--) {
            all.add(x.lay(m));
        }
        all.add(x.clear());
        all.add(x.lawns(1));
        all.add(x.unwin(0));
        all.add(x.unwin(7));
    }
}
