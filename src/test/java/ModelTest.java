/**
 * All promises at once: long runs of calls, drawn by a fixed row of numbers, against a second telling of the document.
 * A run ends ahead of an object's 512th call, since what later calls answer is free.
 */
public final class ModelTest {
    private static final Due due = new Due("ModelTest");
    private static final String[] TAPES = {"p5R;r2N", "p99R;r99N", "p9N;r9R", "r3R", "p0N", "", " ", "p7R;p2N", "r99R;r4N",
        "p100R", "p5R;r2N;", "x", "p 9 9 R", "p5R;r100N", "r002R", "p0N;r", "p1R;r1R"};
    private static final int[] ODD = {-1, Integer.MIN_VALUE, Integer.MAX_VALUE, 8, 15, 31, 150, 2001, -4};

    private static final int CALLS = 512, LAST_LOOK = 150;

    private long seed;
    private CroquetLawn x;
    private Model y;
    private int calls;

    public static void main(String[] args) {
        for (int run = 0; run < 20000; run++) {
            new ModelTest(run).run();
        }
        due.end();
    }

    private ModelTest(int run) {
        seed = run * 7919L + 17;
        x = new CroquetLawn();
        y = new Model();
    }

    private int below(int n) {
        seed = seed * 6364136223846793005L + 1442695040888963407L;
        return (int) ((seed >>> 33) % n);
    }

    /** Mostly a number below n, now and then one that nobody wants. */
    private int number(int n) {
        return below(40) == 0 ? ODD[below(ODD.length)] : below(n);
    }

    private void run() {
        int part = below(4);
        // in some runs there are hardly any misses, so that games are won
        int misses = 1 + below(6);
        // room is left for the last look and for what one turn of the loop calls
        while (calls < CALLS - LAST_LOOK) {
            int area = part == 3 ? below(3) : part;
            if (area == 0) {
                gameCall(misses);
            } else if (area == 1) {
                meetingCall();
            } else {
                otherCall();
            }
        }
        if (part == 1 || part == 3 && below(2) == 0) {
            compareMeeting();
        } else {
            compareGame();
        }
        due.is("within its calls", calls <= CALLS ? 1 : 0, 1);
    }

    private void check(String call, int got, int want) {
        calls++;
        due.is(call, got, want);
    }

    private void gameCall(int misses) {
        int which = below(30);
        if (which < 24) {
            int kind = below(20) == 0 ? number(7) : likely(misses);
            int ball = number(4);
            check("stroke(" + kind + ", " + ball + ")", x.stroke(kind, ball), y.stroke(kind, ball));
        } else if (which < 26) {
            int s = below(3) == 0 ? number(150) : y.count(0) - 1 - below(6);
            check("found(" + s + ")", x.found(s), y.found(s));
        } else if (which == 26) {
            compareStates();
        } else if (which == 27) {
            tape();
        } else if (which == 28 && below(8) == 0 || y.count(0) == 0) {
            int first = number(8);
            int other = number(8);
            check("game(" + first + ", " + other + ")", x.game(first, other), y.game(first, other));
        } else {
            check("settle()", x.settle(), y.settle());
        }
    }

    private int likely(int misses) {
        int n = y.count(0);
        if (y.state(n, 1) < 0) {
            return below(3) == 0 ? 6 : 0;
        }
        if (y.state(n, 4) >= 0) {
            return 4;
        }
        int[] kinds = {2, 2, 2, 3, 3, 5, 5, 5, 1, 1};
        return kinds[below(kinds.length - 2 + Math.min(2, misses / 2))];
    }

    private void compareStates() {
        int n = below(2) == 0 ? number(151) : y.count(0) - below(8);
        for (int what = 0; what < 12; what++) {
            check("state(" + n + ", " + what + ")", x.state(n, what), y.state(n, what));
        }
        for (int what = 0; what < 4; what++) {
            check("told(" + n + ", " + what + ")", x.told(n, what), y.told(n, what));
            check("count(" + what + ")", x.count(what), y.count(what));
        }
        check("hit(" + n + ")", x.hit(n), y.hit(n));
    }

    private void tape() {
        if (below(3) > 0) {
            String text = TAPES[below(TAPES.length)];
            for (int at = 0; at < text.length(); at += 8) {
                String part = text.substring(at, Math.min(text.length(), at + 8));
                type(Tell.number(part), part.length());
            }
        } else {
            String signs = "ppr0123459 RN;;";
            for (int k = below(9); k > 0; k--) {
                type(signs.charAt(below(signs.length())), 1);
            }
        }
        if (below(5) > 0) {
            check("laws()", x.laws(), y.laws());
        }
    }

    private void type(long w, int n) {
        check("type(" + w + ", " + n + ")", x.type(w, n), y.type(w, n));
    }

    private void otherCall() {
        int which = below(6);
        if (which == 0) {
            int p = number(8);
            int v = below(4) == 0 ? number(2001) : 10 * below(201);
            check("index(" + p + ", " + v + ")", x.index(p, v), y.index(p, v));
        } else if (which == 1) {
            int p = number(8);
            check("handicap(" + p + ")", x.handicap(p), y.handicap(p));
        } else if (which == 2) {
            tape();
        } else if (which == 3) {
            type((long) below(Integer.MAX_VALUE) << 32 | below(Integer.MAX_VALUE), number(9));
        } else {
            gameCall(1);
        }
    }

    private void meetingCall() {
        int m = number(15);
        int p = number(8);
        int which = below(20);
        if (which < 8) {
            if (below(3) > 0) {
                p = y.match(m, below(2));
            }
            check("win(" + m + ", " + p + ")", x.win(m, p), y.win(m, p));
        } else if (which == 8) {
            check("unwin(" + m + ")", x.unwin(m), y.unwin(m));
        } else if (which < 16) {
            check("lay(" + m + ")", x.lay(m), y.lay(m));
        } else if (which == 16) {
            check("champion()", x.champion(), y.champion());
        } else if (which == 17) {
            int n = number(5);
            check("lawns(" + n + ")", x.lawns(n), y.lawns(n));
        } else if (which == 18 && below(6) == 0) {
            check("clear()", x.clear(), y.clear());
        } else {
            compareMatch(m);
        }
    }

    private void compareMatch(int m) {
        for (int what = -1; what <= 3; what++) {
            check("match(" + m + ", " + what + ")", x.match(m, what), y.match(m, what));
        }
        check("hour(" + m + ")", x.hour(m), y.hour(m));
    }

    private void compareMeeting() {
        for (int m = -1; m <= 15; m++) {
            compareMatch(m);
        }
        check("champion()", x.champion(), y.champion());
        check("clear()", x.clear(), y.clear());
    }

    /** The last few moments and strokes, all indexes, and the laws. */
    private void compareGame() {
        int size = y.count(0);
        for (int n = size; n > size - 5; n--) {
            for (int what = 0; what < 12; what++) {
                check("state(" + n + ", " + what + ")", x.state(n, what), y.state(n, what));
            }
            for (int what = 0; what < 4; what++) {
                check("told(" + n + ", " + what + ")", x.told(n, what), y.told(n, what));
            }
        }
        for (int p = 0; p < 8; p++) {
            check("index of " + p, x.index(p, 0), y.index(p, 0));
        }
        for (int s = size - 1; s > size - 8; s--) {
            check("found(" + s + ")", x.found(s), y.found(s));
        }
        check("settle()", x.settle(), y.settle());
        check("laws()", x.laws(), y.laws());
    }
}
