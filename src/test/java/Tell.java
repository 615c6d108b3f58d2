/** Short ways to tell a lawn many strokes, and a tape of any length. */
final class Tell {
    private static final String KINDS = "PMHRCGF";

    private Tell() {
    }

    /** Strokes such as "P0 H R1 C M F G": play, miss, hoop, roquet, croquet, peg (G) and free; all must be taken. */
    static void strokes(Due due, CroquetLawn x, String strokes) {
        for (String one : strokes.split(" ")) {
            int ball = one.length() > 1 ? one.charAt(1) - '0' : 0;
            int want = x.count(0);
            due.is(one + " of " + strokes, x.stroke(KINDS.indexOf(one.charAt(0)), ball), want);
        }
    }

    /** Types a text; answers what the last call answered. */
    static int type(CroquetLawn x, String text) {
        int answer = 0;
        for (int at = 0; at < text.length(); at += 8) {
            String part = text.substring(at, Math.min(text.length(), at + 8));
            answer = x.type(number(part), part.length());
        }
        return answer;
    }

    static long number(String part) {
        long w = 0;
        for (int k = 0; k < part.length(); k++) {
            w = w << 8 | part.charAt(k);
        }
        return w;
    }

    static int laws(CroquetLawn x, String text) {
        type(x, text);
        return x.laws();
    }

    /** The whole state as of n strokes against the twelve numbers that are due. */
    static void state(Due due, CroquetLawn x, int n, int... want) {
        for (int what = 0; what < want.length; what++) {
            due.is("state(" + n + ", " + what + ")", x.state(n, what), want[what]);
        }
    }
}
