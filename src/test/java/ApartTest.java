import java.util.ArrayList;
import java.util.Arrays;
import java.util.List;

/**
 * A call that is taken changes what its promise says, and nothing else: games leave the tape, the laws and the meeting
 * as they were, and so on. Each call is made on an object of its own, of which then one part is looked at, beside a
 * twin on which it was not made.
 */
public final class ApartTest {
    private static final int GAME = 0, INDEXES = 1, TAPE = 2, LAWS = 3, RESULTS = 4, HOURS = 5, PARTS = 6;
    private static final int NOT = -2;
    private static final Due due = new Due("ApartTest");

    private static int taken = 0;

    public static void main(String[] args) {
        for (int state = 0; state < States.ALL; state++) {
            int[][] untouched = new int[PARTS][];
            for (int part = 0; part < PARTS; part++) {
                untouched[part] = look(States.built(due, state), part);
            }
            changing(state, untouched);
            asking(state, untouched);
        }
        due.is("hundreds of calls were taken", taken > 1000 ? 1 : 0, 1);
        openingALongTape();
        twoGamesAndAMeeting();
        due.end();
    }

    private static void changing(int state, int[][] untouched) {
        calls(state, untouched, "game", 0, 7, 0, 7, GAME);
        calls(state, untouched, "stroke", 0, 6, 0, 3, GAME);
        calls(state, untouched, "found", 0, 6, 0, 0, GAME);
        calls(state, untouched, "type", 1, 4, 0, 0, TAPE);
        calls(state, untouched, "laws", 0, 0, 0, 0, TAPE, LAWS);
        calls(state, untouched, "index", 0, 7, 3, 3, INDEXES);
        calls(state, untouched, "settle", 0, 0, 0, 0, GAME, INDEXES);
        calls(state, untouched, "win", 0, 14, 0, 7, RESULTS);
        calls(state, untouched, "unwin", 0, 14, 0, 0, RESULTS);
        calls(state, untouched, "lawns", 1, 4, 0, 0, HOURS);
        calls(state, untouched, "lay", 0, 14, 0, 0, HOURS);
        calls(state, untouched, "clear", 0, 0, 0, 0, HOURS);
    }

    private static void asking(int state, int[][] untouched) {
        calls(state, untouched, "told", 0, 2, 0, 3);
        calls(state, untouched, "hit", 0, 3, 0, 0);
        calls(state, untouched, "state", 0, 2, 0, 11);
        calls(state, untouched, "count", 0, 2, 0, 0);
        calls(state, untouched, "handicap", 0, 7, 0, 0);
        calls(state, untouched, "match", 0, 14, 0, 2);
        calls(state, untouched, "champion", 0, 0, 0, 0);
        calls(state, untouched, "hour", 0, 14, 0, 0);
    }

    /** A call with each of its numbers; all parts but the given ones must be as they were. */
    private static void calls(int state, int[][] untouched, String call, int a0, int a1, int b0, int b1, int... own) {
        for (int part = 0; part < PARTS; part++) {
            int looked = part;
            if (Arrays.stream(own).anyMatch(one -> one == looked)) {
                continue;
            }
            for (int a = a0; a <= a1; a++) {
                for (int b = b0; b <= b1; b++) {
                    CroquetLawn x = States.built(due, state);
                    taken += States.made(x, call, a, b) >= 0 ? 1 : 0;
                    compare(call + "(" + a + ", " + b + ") in state " + state + ", part " + part, look(x, part), untouched[part]);
                }
            }
        }
    }

    private static void compare(String call, int[] got, int[] want) {
        due.is("so many answers behind " + call, got.length, want.length);
        for (int k = 0; k < Math.min(got.length, want.length); k++) {
            due.is("look " + k + " behind " + call, got[k], want[k]);
        }
    }

    /** What an object answers of one part; the calls of a look do not touch what it looks at later. */
    private static int[] look(CroquetLawn x, int part) {
        List<Integer> all = new ArrayList<>();
        switch (part) {
            case GAME: lookAtGame(x, all); break;
            case INDEXES: lookAtIndexes(x, all); break;
            case TAPE: lookAtTape(x, all); break;
            case LAWS: lookAtLaws(x, all); break;
            case RESULTS: lookAtResults(x, all); break;
            default: lookAtHours(x, all); break;
        }
        return all.stream().mapToInt(Integer::intValue).toArray();
    }

    private static void lookAtGame(CroquetLawn x, List<Integer> all) {
        int size = x.count(0);
        for (int what = 0; what < 3; what++) {
            all.add(x.count(what));
        }
        for (int n : new int[] {0, size / 2, size - 1, size}) {
            for (int what = 0; what < 12; what++) {
                all.add(x.state(n, what));
            }
        }
        for (int s = size - 1; s >= size - 7; s--) {
            for (int what = 0; what < 4; what++) {
                all.add(x.told(s, what));
            }
            all.add(x.hit(s));
        }
        all.add(x.stroke(6, 0));
        all.add(x.stroke(0, 0));
        // how much a settled game moves is told by the indexes, not by the game
        all.add(x.settle() == NOT ? 0 : 1);
    }

    private static void lookAtIndexes(CroquetLawn x, List<Integer> all) {
        for (int p = 0; p < 8; p++) {
            all.add(x.handicap(p));
            all.add(x.index(p, 7));
        }
    }

    private static void lookAtTape(CroquetLawn x, List<Integer> all) {
        all.add(x.type(Tell.number("p"), 1));
        all.add(x.laws());
    }

    /** In new games a wrong play or a wrong roquet, which is found with more and more strokes behind it. */
    private static void lookAtLaws(CroquetLawn x, List<Integer> all) {
        int[][] wrongPlay = {{0, 1}};
        int[][] wrongRoquet = {{0, 0}, {3, 1}, {4, 0}, {3, 1}};
        for (int[][] strokes : new int[][][] {wrongPlay, wrongRoquet}) {
            for (int behind = 0; behind <= 10; behind++) {
                x.game(0, 1);
                // told without Tell, since an object that has 150 strokes already has few calls left of its 512
                for (int[] one : strokes) {
                    x.stroke(one[0], one[1]);
                }
                Tell.goOn(due, x, behind);
                all.add(x.found(strokes.length - 1));
            }
        }
    }

    private static void lookAtResults(CroquetLawn x, List<Integer> all) {
        for (int m = 0; m < 15; m++) {
            for (int what = 0; what < 3; what++) {
                all.add(x.match(m, what));
            }
        }
        all.add(x.champion());
    }

    private static void lookAtHours(CroquetLawn x, List<Integer> all) {
        for (int m = 0; m < 15; m++) {
            all.add(x.hour(m));
        }
        all.add(x.lawns(3));
        all.add(x.clear());
        all.add(x.lawns(4));
    }

    /** A tape that is typed bit by bit, with calls of all other kinds between, is read as one text. */
    private static void openingALongTape() {
        CroquetLawn x = new CroquetLawn();
        due.is("p", Tell.type(x, "p"), 1);
        due.is("game", x.game(0, 1), 0);
        due.is("p0", Tell.type(x, "0"), 2);
        Tell.strokes(due, x, "P1 H H H H H H G");
        due.is("p0N", Tell.type(x, "N"), 3);
        Tell.strokes(due, x, "P3 H H H H H H G");
        due.is("settle", x.settle(), 10);
        due.is("p0N;", Tell.type(x, ";"), 4);
        Tell.wins(due, x, 0, 1);
        Tell.lays(due, x, 0, 0);
        due.is("p0N;r", Tell.type(x, "r"), 5);
        due.is("index", x.index(0, 1000), 990);
        due.is("clear", x.clear(), 1);
        due.is("p0N;r0", Tell.type(x, "0"), 6);
        due.is("unwin", x.unwin(0), 1);
        due.is("game", x.game(1, 0), 0);
        due.is("p0N;r0R", Tell.type(x, "R"), 7);
        due.is("laws", x.laws(), 2);
        Tell.strokes(due, x, "P1");
        due.is("found by N", x.found(0), 2);
        Tell.strokes(due, x, "P1 R0 C R0");
        due.is("found by R", x.found(4), 1);
    }

    /** Games of players who are in the meeting move no result, and results move no index. */
    private static void twoGamesAndAMeeting() {
        CroquetLawn x = new CroquetLawn();
        Tell.wins(due, x, 0, 1);
        Tell.lays(due, x, 0, 0, 2, 0, 1, 1);
        x.game(0, 1);
        Tell.strokes(due, x, "P0 H H H H H H G P2 H H H H H H G");
        due.is("settle", x.settle(), 10);
        due.is("match 0 is won by 1", x.match(0, 2), 1);
        due.is("match 4 tells 1", x.match(4, 0), 1);
        due.is("hour of 1", x.hour(1), 1);
        due.is("match 0 is put back", x.unwin(0), 1);
        Tell.wins(due, x, 0, 0);
        due.is("index of 0", x.index(0, 0), 1010);
        due.is("index of 1", x.index(1, 0), 990);
    }
}
