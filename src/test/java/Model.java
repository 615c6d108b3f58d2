import java.util.ArrayList;
import java.util.HashMap;
import java.util.List;
import java.util.Map;
import java.util.TreeMap;
import java.util.regex.Matcher;
import java.util.regex.Pattern;

/** The document said a second time, in another way: snapshots in place of replays, a pattern in place of a reader. */
final class Model {
    private static final int BAD = -1, NOT = -2, FULL = -3, NONE = -4, CAST = -13;

    /** A game as it stands ahead of a stroke; a turn's ball is kept when it is over, for a free turn. */
    private record Shot(int side, int ball, boolean playing, int toGo, List<Integer> live, int due, List<Integer> hoops,
        List<Integer> free, boolean mayFree) {
        int winner() {
            return hoops.get(0) == 7 && hoops.get(2) == 7 ? 0 : hoops.get(1) == 7 && hoops.get(3) == 7 ? 1 : NONE;
        }

        List<Integer> others(int b) {
            List<Integer> all = new ArrayList<>(List.of(0, 1, 2, 3));
            all.removeIf(k -> k == b || hoops.get(k) == 7);
            return all;
        }

        Shot in(int s, int b, List<Integer> f) {
            return new Shot(s, b, true, 1, others(b), NONE, hoops, f, false);
        }

        Shot over() {
            return new Shot(1 - side, ball, false, 0, List.of(), NONE, hoops, free, true);
        }

        Shot forSide(int s) {
            return new Shot(s, ball, false, 0, List.of(), NONE, hoops, free, false);
        }

        Shot run(int value) {
            return new Shot(side, ball, playing, toGo, live, due, with(hoops, ball, value), free, mayFree);
        }
    }

    private static final class Stroke {
        int kind, ball, side, aim;
        boolean wrong;
    }

    private record Clause(int number, char letter) {
    }

    private final List<Stroke> strokes = new ArrayList<>();
    private final List<Shot> shots = new ArrayList<>();
    private int[] pair;
    private StringBuilder tape = new StringBuilder();
    private Map<Character, Clause> laws = new HashMap<>(Map.of('p', new Clause(5, 'R'), 'r', new Clause(2, 'N')));
    private final int[] index = {1000, 1000, 1000, 1000, 1000, 1000, 1000, 1000};
    private final TreeMap<Integer, Integer> results = new TreeMap<>();
    private final TreeMap<Integer, Integer> hours = new TreeMap<>();
    private int lawns = 2;

    private static List<Integer> with(List<Integer> list, int at, int value) {
        List<Integer> copy = new ArrayList<>(list);
        copy.set(at, value);
        return copy;
    }

    private static boolean player(int p) {
        return p >= 0 && p <= 7;
    }

    private Shot last() {
        return shots.get(shots.size() - 1);
    }

    int game(int first, int other) {
        if (!player(first) || !player(other) || first == other) {
            return -101;
        }
        int apart = handicap(first) - handicap(other);
        int f0 = apart > 0 ? apart / 2 + apart % 2 : 0;
        int f1 = apart < 0 ? -apart / 2 + -apart % 2 : 0;
        pair = new int[] {first, other};
        strokes.clear();
        shots.clear();
        shots.add(new Shot(0, NONE, false, 0, List.of(), NONE, List.of(0, 0, 0, 0), List.of(f0, f1), false));
        return f1 - f0;
    }

    int stroke(int kind, int ball) {
        if (kind < 0 || kind > 6 || (kind == 0 || kind == 3) && (ball < 0 || ball > 3)) {
            return BAD;
        }
        if (pair == null) {
            return NOT;
        }
        Shot now = last();
        Shot next = now.winner() == NONE ? behind(now, kind, ball) : null;
        if (next == null) {
            return NOT;
        }
        if (strokes.size() == 150) {
            return FULL;
        }
        Stroke s = new Stroke();
        s.kind = kind;
        s.aim = ball;
        s.ball = kind == 0 ? ball : now.ball();
        s.side = kind == 6 ? 1 - now.side() : now.side();
        s.wrong = kind == 0 && (ball + now.side()) % 2 == 1 || kind == 3 && !now.live().contains(ball);
        strokes.add(s);
        shots.add(next);
        return strokes.size() - 1;
    }

    private Shot behind(Shot now, int kind, int ball) {
        if (!now.playing()) {
            if (kind == 0 && now.hoops().get(ball) < 7) {
                return now.in(now.side(), ball, now.free());
            }
            int had = 1 - now.side();
            if (kind == 6 && now.mayFree() && now.free().get(had) > 0 && now.hoops().get(now.ball()) < 7) {
                return now.in(had, now.ball(), with(now.free(), had, now.free().get(had) - 1));
            }
            return null;
        }
        if (now.due() != NONE) {
            return kind != 4 ? null : new Shot(now.side(), now.ball(), true, 1, now.live(), NONE, now.hoops(), now.free(), false);
        }
        int run = now.hoops().get(now.ball());
        if (kind == 1) {
            return now.over();
        }
        if (kind == 2 && run < 6) {
            return now.run(run + 1).in(now.side(), now.ball(), now.free());
        }
        if (kind == 3 && ball != now.ball() && now.hoops().get(ball) < 7) {
            List<Integer> live = new ArrayList<>(now.live());
            live.removeIf(k -> k == ball);
            return new Shot(now.side(), now.ball(), true, now.toGo() - 1, live, ball, now.hoops(), now.free(), false);
        }
        return kind == 5 && run == 6 ? now.run(7).over() : null;
    }

    int told(int s, int what) {
        if (s < 0 || what < 0 || what > 3) {
            return BAD;
        }
        if (s >= strokes.size()) {
            return NONE;
        }
        Stroke k = strokes.get(s);
        return new int[] {k.kind, k.ball, k.side, k.wrong ? 1 : 0}[what];
    }

    int hit(int s) {
        if (s < 0 || s >= strokes.size()) {
            return BAD;
        }
        return strokes.get(s).kind == 3 ? strokes.get(s).aim : CAST;
    }

    int state(int n, int what) {
        if (pair == null || n < 0 || n > strokes.size() || what < 0 || what > 11) {
            return BAD;
        }
        Shot shot = shots.get(n);
        int live = shot.live().stream().mapToInt(b -> 1 << b).sum();
        List<Integer> h = shot.hoops();
        List<Integer> f = shot.free();
        return new int[] {shot.side(), shot.playing() ? shot.ball() : NONE, shot.toGo(), live, shot.due(),
            h.get(0), h.get(1), h.get(2), h.get(3), f.get(0), f.get(1), shot.winner()}[what];
    }

    int found(int s) {
        if (s < 0 || s >= strokes.size()) {
            return BAD;
        }
        Stroke k = strokes.get(s);
        Clause clause = laws.get(k.kind == 0 ? 'p' : 'r');
        if (!k.wrong || clause == null || strokes.size() - s - 1 > clause.number()) {
            return NOT;
        }
        if (clause.letter() == 'R') {
            strokes.subList(s, strokes.size()).clear();
            shots.subList(s + 1, shots.size()).clear();
            shots.set(s, last().forSide(1 - k.side));
            return 1;
        }
        k.wrong = false;
        if (last().playing()) {
            shots.set(shots.size() - 1, last().over());
        }
        return 2;
    }

    int type(long w, int n) {
        if (n < 1 || n > 8) {
            return BAD;
        }
        String more = "";
        for (int k = 0; k < n; k++) {
            more = (char) (w & 255) + more;
            w >>= 8;
        }
        if (!more.chars().allMatch(c -> c >= 32 && c < 127)) {
            return BAD;
        }
        if (tape.length() + n > 30) {
            return FULL;
        }
        return tape.append(more).length();
    }

    private static final Pattern CLAUSE = Pattern.compile(" *([pr]) *(0*[0-9]{1,2}) *([RN]) *");

    int laws() {
        String text = tape.toString();
        tape = new StringBuilder();
        if (text.isBlank()) {
            laws = new HashMap<>();
            return 0;
        }
        Map<Character, Clause> read = new HashMap<>();
        Matcher m = CLAUSE.matcher(text);
        if (!m.lookingAt()) {
            return fault(text, 0);
        }
        put(read, m);
        int end = m.end();
        int clauses = 1;
        if (end < text.length()) {
            if (text.charAt(end) != ';') {
                return -20 - end;
            }
            m.region(end + 1, text.length());
            if (!m.lookingAt()) {
                return fault(text, end + 1);
            }
            put(read, m);
            if (m.end() < text.length()) {
                return -20 - m.end();
            }
            clauses = 2;
        }
        laws = read;
        return clauses;
    }

    private static void put(Map<Character, Clause> read, Matcher m) {
        read.put(m.group(1).charAt(0), new Clause(Integer.parseInt(m.group(2)), m.group(3).charAt(0)));
    }

    /** The fault in a clause that can't be read: the first of its parts that is not there. */
    private static int fault(String text, int from) {
        String[] parts = {" *", " *[pr] *", " *[pr] *(?=0*[0-9]{1,2}(?![0-9]))", " *[pr] *0*[0-9]{1,2}(?![0-9]) *"};
        int place = from;
        for (String part : parts) {
            Matcher m = Pattern.compile(part).matcher(text).region(from, text.length());
            place = m.lookingAt() ? m.end() : place;
        }
        return -20 - place;
    }

    int count(int what) {
        if (what < 0 || what > 2) {
            return BAD;
        }
        return (int) strokes.stream().filter(s -> what == 0 || (what == 1 ? s.wrong : s.kind % 6 == 0)).count();
    }

    int index(int p, int v) {
        if (!player(p) || v < 0 || v > 2000) {
            return BAD;
        }
        int was = index[p];
        index[p] = v;
        return was;
    }

    int handicap(int p) {
        return player(p) ? 20 - index[p] / 100 : -101;
    }

    int settle() {
        if (pair == null || last().winner() == NONE) {
            return NOT;
        }
        int winner = pair[last().winner()];
        int loser = pair[1 - last().winner()];
        int apart = index[winner] - index[loser];
        int part = apart < 0 ? -(-apart / 20) : apart / 20;
        int e = 10 - part < 1 ? 1 : 10 - part > 19 ? 19 : 10 - part;
        index[winner] = index[winner] + e > 2000 ? 2000 : index[winner] + e;
        index[loser] = index[loser] - e < 0 ? 0 : index[loser] - e;
        pair = null;
        strokes.clear();
        shots.clear();
        return e;
    }

    private static boolean named(int m) {
        return m >= 0 && m <= 14;
    }

    /** The matches from which one comes, by where it stands in its draw. */
    private static int[] sources(int m) {
        if (m == 14) {
            return new int[] {6, 13};
        }
        int place = m % 7;
        int base = m - place;
        return place < 4 ? new int[0] : new int[] {base + 2 * (place - 4), base + 2 * (place - 4) + 1};
    }

    private int seat(int m, int which) {
        int[][] firsts = {{0, 1}, {2, 3}, {4, 5}, {6, 7}, {0, 4}, {2, 6}, {1, 5}, {3, 7}};
        int[] from = sources(m);
        if (from.length == 0) {
            return firsts[m / 7 * 4 + m % 7][which];
        }
        if (m == 14) {
            Integer a = results.get(6);
            Integer b = results.get(13);
            return a == null || b == null || a.equals(b) ? NONE : which == 0 ? a : b;
        }
        return results.getOrDefault(from[which], NONE);
    }

    int match(int m, int what) {
        if (!named(m) || what < 0 || what > 2) {
            return BAD;
        }
        return what == 2 ? results.getOrDefault(m, NONE) : seat(m, what);
    }

    int win(int m, int p) {
        if (!named(m) || !player(p)) {
            return BAD;
        }
        boolean both = seat(m, 0) != NONE && seat(m, 1) != NONE;
        if (!both || results.containsKey(m) || p != seat(m, 0) && p != seat(m, 1)) {
            return NOT;
        }
        results.put(m, p);
        return 1;
    }

    int unwin(int m) {
        if (!named(m)) {
            return BAD;
        }
        if (!results.containsKey(m)) {
            return NOT;
        }
        int gone = results.remove(m) < 0 ? 0 : 1;
        for (int k = m + 1; k < 15; k++) {
            for (int from : sources(k)) {
                if (!results.containsKey(from) && results.remove(k) != null) {
                    gone++;
                }
            }
        }
        return gone;
    }

    int champion() {
        if (results.containsKey(6) && results.get(6).equals(results.get(13))) {
            return results.get(6);
        }
        return results.getOrDefault(14, NONE);
    }

    int lawns(int n) {
        if (n < 1 || n > 4) {
            return BAD;
        }
        if (!hours.isEmpty()) {
            return NOT;
        }
        int was = lawns;
        lawns = n;
        return was;
    }

    int lay(int m) {
        if (!named(m)) {
            return BAD;
        }
        int h = 0;
        for (int from : sources(m)) {
            if (!hours.containsKey(from)) {
                return NOT;
            }
            h = Math.max(h, hours.get(from) + 1);
        }
        if (hours.containsKey(m)) {
            return NOT;
        }
        while (!fits(m, h)) {
            h++;
        }
        hours.put(m, h);
        return h;
    }

    private boolean fits(int m, int h) {
        List<Integer> then = hours.keySet().stream().filter(k -> hours.get(k) == h).toList();
        List<Integer> busy = new ArrayList<>();
        then.forEach(k -> busy.addAll(List.of(seat(k, 0), seat(k, 1))));
        busy.removeIf(p -> p == NONE);
        return then.size() < lawns && !busy.contains(seat(m, 0)) && !busy.contains(seat(m, 1));
    }

    int hour(int m) {
        return named(m) ? hours.getOrDefault(m, NONE) : BAD;
    }

    int clear() {
        int were = hours.size();
        hours.clear();
        return were;
    }
}
