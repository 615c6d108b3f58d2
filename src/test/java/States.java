/** Objects in many states, and calls by their names, for tests that make every call in every state. */
final class States {
    static final int ALL = 15;

    private States() {
    }

    /** An object in one of the states 0 .. 14, with few calls enough that there is room for a look. */
    static CroquetLawn built(Due due, int state) {
        CroquetLawn x = new CroquetLawn();
        if (state == 0) {
            return x;
        }
        x.index(0, 500);
        x.game(0, 1);
        switch (state) {
            case 1: x.lawns(1); Tell.type(x, "p5"); break;
            case 2: Tell.strokes(due, x, "P0"); break;
            case 3: Tell.strokes(due, x, "P0 M P1 H R2"); break;
            case 4: Tell.strokes(due, x, "P0 H M F M"); break;
            case 5: Tell.strokes(due, x, "P0 M P0"); x.found(2); break;
            case 6: Tell.strokes(due, x, "P0 H H H H H H G P1 M P2 H H H H H H G"); break;
            case 7: Tell.strokes(due, x, "P0 M P3 H H H H H H"); break;
            case 8: Tell.laws(x, "p0R;r0N"); Tell.strokes(due, x, "P1 R0 C R0 C H"); Tell.type(x, "p5R;"); break;
            case 9: x.lawns(3); meeting(due, x, 9); Tell.type(x, "r2N; p5R" + " ".repeat(22)); break;
            case 10: Tell.type(x, "p4R;r3N" + " ".repeat(20)); meeting(due, x, 13); Tell.wins(due, x, 13, 3, 14, 0); break;
            case 11: Tell.strokes(due, x, "P1 H H H H H H G P3 H H H H H H G"); x.settle(); break;
            case 12: Tell.goOn(due, x, 150); break;
            case 13: Tell.laws(x, "p99R;p9N"); Tell.strokes(due, x, "P1 R0 C R0 C"); x.found(0); break;
            default: Tell.strokes(due, x, "P0 R1 C R1 C"); x.found(3); meeting(due, x, 13); Tell.wins(due, x, 13, 0); break;
        }
        return x;
    }

    /** So many matches are won (of draw 0 all by player 0, of draw 1 the last but one by player 3) and laid. */
    private static void meeting(Due due, CroquetLawn x, int matches) {
        for (int m = 0; m < matches; m++) {
            Tell.wins(due, x, m, x.match(m, m == 12 ? 1 : 0));
            due.is("lay of " + m, x.lay(m) >= 0 ? 1 : 0, 1);
        }
    }

    static boolean takesTwo(String call) {
        return " game stroke told state index match win ".contains(" " + call + " ");
    }

    /** A call by its name; what it does not take is not looked at. Typed are the four letters of p7N; or fewer of them. */
    static int made(CroquetLawn x, String call, int a, int b) {
        switch (call) {
            case "game": return x.game(a, b);
            case "stroke": return x.stroke(a, b);
            case "told": return x.told(a, b);
            case "hit": return x.hit(a);
            case "state": return x.state(a, b);
            case "found": return x.found(a);
            case "type": return x.type(Tell.number("p7N;"), a);
            case "laws": return x.laws();
            case "count": return x.count(a);
            case "index": return x.index(a, b);
            case "handicap": return x.handicap(a);
            case "settle": return x.settle();
            case "match": return x.match(a, b);
            case "win": return x.win(a, b);
            case "unwin": return x.unwin(a);
            case "champion": return x.champion();
            case "lawns": return x.lawns(a);
            case "lay": return x.lay(a);
            case "hour": return x.hour(a);
            default: return x.clear();
        }
    }
}
