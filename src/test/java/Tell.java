/** Short ways to tell a lawn many strokes, and a tape of any length. */
final class Tell {
    private static final String KINDS = "PMHRCGF";

    private Tell() {
    }

    /** Strokes such as "P0 H R1 C M F G": play, miss, hoop, roquet, croquet, peg (G) and free; all must be taken. */
    static void strokes(Due due, CroquetLawn x, String strokes) {
        for (String one : strokes.split(" ")) {
            int ball = one.length() > 1 ? one.charAt(1) - '0' : 0;
            int want = x.count(0);
            due.is(one + " of " + strokes, x.stroke(KINDS.indexOf(one.charAt(0)), ball), want);
        }
    }

    /** A game of players 0 and 1 in which each side has so many free turns (one of them none, the other up to 10). */
    static CroquetLawn game(Due due, int free0, int free1) {
        CroquetLawn x = new CroquetLawn();
        x.index(0, 200 * free1);
        x.index(1, 200 * free0);
        due.is("game with " + free0 + " and " + free1 + " free turns", x.game(0, 1), free1 - free0);
        return x;
    }

    /** Plays a ball from its first hoop to the peg, whoever's turn it is: eight strokes. */
    static void pegOut(Due due, CroquetLawn x, int ball) {
        strokes(due, x, "P" + ball + " H H H H H H G");
    }

    /**
     * So many strokes more, each the plainest that may come: croquet where it must be, else miss, else a right play.
     * What comes next is asked once, since an object has 512 calls.
     */
    static void goOn(Due due, CroquetLawn x, int more) {
        int first = x.count(0);
        int side = x.state(first, 0);
        int kind = x.state(first, 4) >= 0 ? 4 : x.state(first, 1) >= 0 ? 1 : 0;
        for (int n = first; n < first + more; n++) {
            due.is("stroke " + n + " goes on", x.stroke(kind, side), n);
            side = kind == 1 ? 1 - side : side;
            kind = kind == 1 ? 0 : 1;
        }
    }

    /** Types a text; answers what the last call answered. */
    static int type(CroquetLawn x, String text) {
        int answer = 0;
        for (int at = 0; at < text.length(); at += 8) {
            String part = text.substring(at, Math.min(text.length(), at + 8));
            answer = x.type(number(part), part.length());
        }
        return answer;
    }

    static long number(String part) {
        long w = 0;
        for (int k = 0; k < part.length(); k++) {
            w = w << 8 | part.charAt(k);
        }
        return w;
    }

    static int laws(CroquetLawn x, String text) {
        type(x, text);
        return x.laws();
    }

    /** Matches and the players that win them, pair by pair; all must be taken. */
    static void wins(Due due, CroquetLawn x, int... pairs) {
        for (int k = 0; k < pairs.length; k += 2) {
            due.is("win(" + pairs[k] + ", " + pairs[k + 1] + ")", x.win(pairs[k], pairs[k + 1]), 1);
        }
    }

    /** Matches and the hours that are due when they are laid, pair by pair. */
    static void lays(Due due, CroquetLawn x, int... pairs) {
        for (int k = 0; k < pairs.length; k += 2) {
            due.is("lay(" + pairs[k] + ")", x.lay(pairs[k]), pairs[k + 1]);
            due.is("hour(" + pairs[k] + ")", x.hour(pairs[k]), pairs[k + 1]);
        }
    }

    /** The whole state as of n strokes against the twelve numbers that are due. */
    static void state(Due due, CroquetLawn x, int n, int... want) {
        for (int what = 0; what < want.length; what++) {
            due.is("state(" + n + ", " + what + ")", x.state(n, what), want[what]);
        }
    }
}
