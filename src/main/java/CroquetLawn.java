import java.util.Arrays;

/** A croquet lawn's book: a game told by strokes, players' marks, and a meeting of eight with two draws. */
public final class CroquetLawn {
    public static final int BAD = -1, NOT = -2, FULL = -3, NONE = -4, CAST = -13;

    private static final int BAD_FOR_SIGNED = BAD - 100;
    private static final int PLAY = 0, MISS = 1, HOOP = 2, ROQUET = 3, CROQUET = 4, PEG = 5, FREE = 6;
    private static final int KINDS = 7, BALLS = 4, SIDES = 2, STROKES = 150;
    private static final int ALL_HOOPS = 6, OUT = 7;
    private static final int PLAYERS = 8, TOP_INDEX = 2000;

    private final Play play = new Play();
    private final Laws book = new Laws();
    private final Roster roster = new Roster();
    private final Meeting meeting = new Meeting();

    public CroquetLawn() {
    }

    // ---- 1 the game

    public int game(int first, int other) {
        if (!isPlayer(first) || !isPlayer(other) || first == other) {
            return BAD_FOR_SIGNED;
        }
        int more = roster.freeTurnsOfOther(first, other);
        play.begin(first, other, Math.max(0, -more), Math.max(0, more));
        return more;
    }

    public int stroke(int kind, int ball) {
        if (!within(kind, 0, KINDS - 1)) {
            return BAD;
        }
        boolean namesBall = kind == PLAY || kind == ROQUET;
        if (namesBall && !within(ball, 0, BALLS - 1)) {
            return BAD;
        }
        return play.take(kind, namesBall ? ball : 0);
    }

    public int told(int s, int what) {
        return s < 0 || !within(what, 0, 3) ? BAD : play.tell(s, what);
    }

    public int hit(int s) {
        return play.roqueted(s);
    }

    public int state(int n, int what) {
        return within(what, 0, 11) ? play.asOf(n, what) : BAD;
    }

    public int found(int s) {
        return play.find(s, book);
    }

    public int type(long w, int n) {
        return book.append(w, n);
    }

    public int laws() {
        return book.takeTape();
    }

    public int count(int what) {
        return within(what, 0, 2) ? play.total(what) : BAD;
    }

    // ---- 2 players

    public int index(int player, int v) {
        return isPlayer(player) && within(v, 0, TOP_INDEX) ? roster.put(player, v) : BAD;
    }

    public int handicap(int player) {
        return isPlayer(player) ? roster.handicapOf(player) : BAD_FOR_SIGNED;
    }

    public int settle() {
        int winner = play.winner();
        if (winner == NONE) {
            return NOT;
        }
        int moved = roster.move(play.playerOf(winner), play.playerOf(1 - winner));
        play.end();
        return moved;
    }

    // ---- 3 the meeting

    public int match(int m, int what) {
        return Meeting.isMatch(m) && within(what, 0, 2) ? meeting.who(m, what) : BAD;
    }

    public int win(int m, int player) {
        return Meeting.isMatch(m) && isPlayer(player) ? meeting.give(m, player) : BAD;
    }

    public int unwin(int m) {
        return Meeting.isMatch(m) ? meeting.takeBack(m) : BAD;
    }

    public int champion() {
        return meeting.best();
    }

    public int lawns(int n) {
        return within(n, 1, 4) ? meeting.setLawns(n) : BAD;
    }

    public int lay(int m) {
        return Meeting.isMatch(m) ? meeting.place(m) : BAD;
    }

    public int hour(int m) {
        return Meeting.isMatch(m) ? meeting.hourOf(m) : BAD;
    }

    public int clear() {
        return meeting.liftAll();
    }

    // ---- for all of them

    private static boolean within(int v, int low, int high) {
        return v >= low && v <= high;
    }

    private static boolean isPlayer(int player) {
        return within(player, 0, PLAYERS - 1);
    }

    /** Every read of a row goes through here, so that no index is used that was not looked at. */
    private static int at(int[] row, int i) {
        return i >= 0 && i < row.length ? row[i] : NONE;
    }

    /** Every write to a row goes through here, for the same reason. */
    private static void set(int[] row, int i, int v) {
        if (i >= 0 && i < row.length) {
            row[i] = v;
        }
    }

    /** How a game stands at one moment. It trusts that a stroke it is led by was allowed. */
    private static final class Position {
        private final int[] run = new int[BALLS];
        private final int[] freeLeft = new int[SIDES];
        private int side;
        private int inPlay;
        private int toGo;
        private int live;
        private int mustCroquet;
        /** The ball of the turn that ended just now; NONE where no free turn may come. */
        private int freeBall;

        void begin(int free0, int free1) {
            Arrays.fill(run, 0);
            set(freeLeft, 0, free0);
            set(freeLeft, 1, free1);
            stopFor(0);
        }

        boolean allows(int kind, int ball) {
            if (winner() != NONE) {
                return false;
            }
            if (kind == PLAY) {
                return inPlay == NONE && !isOut(ball);
            }
            if (kind == FREE) {
                return inPlay == NONE && allowsFree();
            }
            if (inPlay == NONE) {
                return false;
            }
            return kind == CROQUET ? mustCroquet != NONE : mustCroquet == NONE && allowsFresh(kind, ball);
        }

        private boolean allowsFree() {
            return freeBall != NONE && !isOut(freeBall) && at(freeLeft, 1 - side) > 0;
        }

        private boolean allowsFresh(int kind, int ball) {
            switch (kind) {
                case HOOP: return at(run, inPlay) < ALL_HOOPS;
                case PEG: return at(run, inPlay) == ALL_HOOPS;
                case ROQUET: return ball != inPlay && !isOut(ball);
                default: return true;
            }
        }

        boolean isWrong(int kind, int ball) {
            if (kind == PLAY) {
                return ball % SIDES != side;
            }
            return kind == ROQUET && (live >> ball & 1) == 0;
        }

        void lead(int kind, int ball) {
            switch (kind) {
                case PLAY: bringIn(ball); break;
                case MISS: endTurn(); break;
                case HOOP: set(run, inPlay, at(run, inPlay) + 1); bringIn(inPlay); break;
                case ROQUET: roquet(ball); break;
                case CROQUET: croquet(); break;
                case PEG: set(run, inPlay, OUT); endTurn(); break;
                default: spendFree(); bringIn(freeBall); break;
            }
        }

        private void bringIn(int ball) {
            inPlay = ball;
            toGo = 1;
            live = 0;
            for (int b = 0; b < BALLS; b++) {
                if (b != ball && at(run, b) != OUT) {
                    live |= 1 << b;
                }
            }
        }

        private void roquet(int ball) {
            toGo--;
            live &= ~(1 << ball);
            mustCroquet = ball;
        }

        private void croquet() {
            toGo = 1;
            mustCroquet = NONE;
        }

        private void spendFree() {
            side = 1 - side;
            set(freeLeft, side, at(freeLeft, side) - 1);
        }

        /** Ends the turn that goes on, if one does: a miss always ends it, since 1 is the most that is to go. */
        void endTurn() {
            if (inPlay != NONE) {
                int struck = inPlay;
                stopFor(1 - side);
                freeBall = struck;
            }
        }

        /** No ball is in play, no free turn may come, and the given side is to play. */
        void stopFor(int next) {
            side = next;
            inPlay = NONE;
            toGo = 0;
            live = 0;
            mustCroquet = NONE;
            freeBall = NONE;
        }

        boolean isOut(int ball) {
            return at(run, ball) == OUT;
        }

        int winner() {
            if (isOut(0) && isOut(2)) {
                return 0;
            }
            return isOut(1) && isOut(3) ? 1 : NONE;
        }

        int side() {
            return side;
        }

        int inPlay() {
            return inPlay;
        }

        int tell(int what) {
            switch (what) {
                case 0: return side;
                case 1: return inPlay;
                case 2: return toGo;
                case 3: return live;
                case 4: return mustCroquet;
                case 9: return at(freeLeft, 0);
                case 10: return at(freeLeft, 1);
                case 11: return winner();
                default: return at(run, what - 5);
            }
        }
    }

    /** The strokes of the game, with what was ruled between them, so that any moment can be led to again. */
    private static final class Play {
        /** Rulings behind a stroke: none, the turn is over, or TO_SIDE and the side that is to play. */
        private static final int NO_RULING = 0, TURN_OVER = 1, TO_SIDE = 2;

        private final int[] kinds = new int[STROKES];
        private final int[] aims = new int[STROKES];
        private final int[] strikers = new int[STROKES];
        private final int[] sides = new int[STROKES];
        private final int[] wrongs = new int[STROKES];
        private final int[] rulings = new int[STROKES + 1];
        private final int[] players = new int[SIDES];
        private final Position now = new Position();
        private final Position past = new Position();
        private boolean on;
        private int size;
        private int free0;
        private int free1;

        void begin(int first, int other, int freeOfFirst, int freeOfOther) {
            set(players, 0, first);
            set(players, 1, other);
            free0 = freeOfFirst;
            free1 = freeOfOther;
            on = true;
            size = 0;
            set(rulings, 0, NO_RULING);
            now.begin(free0, free1);
        }

        void end() {
            on = false;
            size = 0;
        }

        int winner() {
            return on ? now.winner() : NONE;
        }

        int playerOf(int side) {
            return at(players, side);
        }

        int take(int kind, int ball) {
            if (!on || !now.allows(kind, ball)) {
                return NOT;
            }
            if (size >= STROKES) {
                return FULL;
            }
            int s = size;
            set(kinds, s, kind);
            set(aims, s, ball);
            set(wrongs, s, now.isWrong(kind, ball) ? 1 : 0);
            // the stroke that begins a turn brings its ball and side, one that ends it takes them away
            if (!begins(kind)) {
                noteStriker(s);
            }
            now.lead(kind, ball);
            if (begins(kind)) {
                noteStriker(s);
            }
            size = s + 1;
            set(rulings, size, NO_RULING);
            return s;
        }

        private static boolean begins(int kind) {
            return kind == PLAY || kind == FREE;
        }

        private void noteStriker(int s) {
            set(strikers, s, now.inPlay());
            set(sides, s, now.side());
        }

        private boolean has(int s) {
            return s >= 0 && s < size;
        }

        int tell(int s, int what) {
            if (!has(s)) {
                return NONE;
            }
            switch (what) {
                case 0: return at(kinds, s);
                case 1: return at(strikers, s);
                case 2: return at(sides, s);
                default: return at(wrongs, s);
            }
        }

        int roqueted(int s) {
            if (!has(s)) {
                return BAD;
            }
            return at(kinds, s) == ROQUET ? at(aims, s) : CAST;
        }

        int asOf(int n, int what) {
            if (!on || n < 0 || n > size) {
                return BAD;
            }
            leadTo(past, n);
            return past.tell(what);
        }

        private void leadTo(Position position, int n) {
            position.begin(free0, free1);
            obey(position, at(rulings, 0));
            for (int s = 0; s < n && s < size; s++) {
                position.lead(at(kinds, s), at(aims, s));
                obey(position, at(rulings, s + 1));
            }
        }

        private static void obey(Position position, int ruling) {
            if (ruling == TURN_OVER) {
                position.endTurn();
            } else if (ruling >= TO_SIDE) {
                position.stopFor(ruling - TO_SIDE);
            }
        }

        int find(int s, Laws book) {
            if (!has(s)) {
                return BAD;
            }
            if (at(wrongs, s) == 0) {
                return NOT;
            }
            int letter = book.letterFor(at(kinds, s), size - 1 - s);
            if (letter == NONE) {
                return NOT;
            }
            return letter == 'R' ? takeAway(s) : stopTurn(s);
        }

        private int takeAway(int s) {
            set(rulings, s, TO_SIDE + 1 - at(sides, s));
            size = s;
            leadTo(now, size);
            return 1;
        }

        private int stopTurn(int s) {
            set(wrongs, s, 0);
            // without a ball in play an older ruling may stand here, and it must stay
            if (now.inPlay() != NONE) {
                set(rulings, size, TURN_OVER);
                now.endTurn();
            }
            return 2;
        }

        int total(int what) {
            int total = 0;
            for (int s = 0; s < size && s < STROKES; s++) {
                if (counts(s, what)) {
                    total++;
                }
            }
            return total;
        }

        private boolean counts(int s, int what) {
            if (what == 0) {
                return true;
            }
            return what == 1 ? at(wrongs, s) == 1 : begins(at(kinds, s));
        }
    }

    /** What is done with wrong strokes that are found late, and the tape by which that is told. */
    private static final class Laws {
        private static final int TAPE = 30, BYTES = 8, TOP_NUMBER = 99, FAULT = -20;

        private final int[] tape = new int[TAPE];
        private int length;
        private int place;
        /** Of plays (0) and roquets (1): how many strokes may come behind, and the letter; NONE: no clause. */
        private final int[] limits = new int[2];
        private final int[] letters = new int[2];
        private final int[] draftLimits = new int[2];
        private final int[] draftLetters = new int[2];

        Laws() {
            set(limits, 0, 5);
            set(letters, 0, 'R');
            set(limits, 1, 2);
            set(letters, 1, 'N');
        }

        /** The letter of the clause for a kind of stroke, NONE if there is none or it comes too late. */
        int letterFor(int kind, int behind) {
            int clause = kind == PLAY ? 0 : 1;
            return behind <= at(limits, clause) ? at(letters, clause) : NONE;
        }

        int append(long w, int n) {
            if (!within(n, 1, BYTES)) {
                return BAD;
            }
            for (int k = 0; k < n; k++) {
                if (!within(byteOf(w, k), 32, 126)) {
                    return BAD;
                }
            }
            if (length + n > TAPE) {
                return FULL;
            }
            for (int k = n - 1; k >= 0; k--) {
                set(tape, length, byteOf(w, k));
                length++;
            }
            return length;
        }

        private static int byteOf(long w, int k) {
            return (int) (w >>> 8 * k & 255);
        }

        int takeTape() {
            place = 0;
            Arrays.fill(draftLetters, NONE);
            int answer = read();
            if (answer >= 0) {
                adoptDraft();
            }
            length = 0;
            return answer;
        }

        private void adoptDraft() {
            for (int k = 0; k < 2; k++) {
                set(limits, k, at(draftLimits, k));
                set(letters, k, at(draftLetters, k));
            }
        }

        /** How many clauses there are, or the fault at the place where reading stopped. */
        private int read() {
            if (atEnd()) {
                return 0;
            }
            if (!readClause()) {
                return FAULT - place;
            }
            if (atEnd()) {
                return 1;
            }
            if (here() != ';') {
                return FAULT - place;
            }
            place++;
            return readClause() && atEnd() ? 2 : FAULT - place;
        }

        private boolean readClause() {
            skipBlanks();
            int kind = here();
            if (kind != 'p' && kind != 'r') {
                return false;
            }
            place++;
            skipBlanks();
            int number = readNumber();
            if (number == NONE) {
                return false;
            }
            skipBlanks();
            int letter = here();
            if (letter != 'R' && letter != 'N') {
                return false;
            }
            place++;
            set(draftLimits, kind == 'p' ? 0 : 1, number);
            set(draftLetters, kind == 'p' ? 0 : 1, letter);
            return true;
        }

        /** A number; NONE with the place at the fault: where a digit is due, or the first one of too great a number. */
        private int readNumber() {
            int start = place;
            int number = 0;
            while (place < length && within(here(), '0', '9')) {
                // held just above the top, so that a long row of digits can't wrap round
                number = Math.min(TOP_NUMBER + 1, number * 10 + here() - '0');
                place++;
            }
            if (place == start) {
                return NONE;
            }
            if (number > TOP_NUMBER) {
                place = start;
                return NONE;
            }
            return number;
        }

        private void skipBlanks() {
            while (place < length && here() == ' ') {
                place++;
            }
        }

        private boolean atEnd() {
            skipBlanks();
            return place >= length;
        }

        private int here() {
            return place < length ? at(tape, place) : NONE;
        }
    }

    /** The players' marks. */
    private static final class Roster {
        private static final int FIRST_INDEX = 1000;

        private final int[] indexes = new int[PLAYERS];

        Roster() {
            Arrays.fill(indexes, FIRST_INDEX);
        }

        int put(int player, int v) {
            int was = at(indexes, player);
            set(indexes, player, v);
            return was;
        }

        int handicapOf(int player) {
            return 20 - at(indexes, player) / 100;
        }

        /** Half the difference, cut up, below 0 where the first one is the weaker. */
        int freeTurnsOfOther(int first, int other) {
            int difference = handicapOf(other) - handicapOf(first);
            int half = (Math.abs(difference) + 1) / 2;
            return difference < 0 ? -half : half;
        }

        int move(int winner, int loser) {
            int won = at(indexes, winner);
            int lost = at(indexes, loser);
            int moved = held(10 - (won - lost) / 20, 1, 19);
            set(indexes, winner, held(won + moved, 0, TOP_INDEX));
            set(indexes, loser, held(lost - moved, 0, TOP_INDEX));
            return moved;
        }

        private static int held(int v, int low, int high) {
            return Math.max(low, Math.min(high, v));
        }
    }

    /** The two draws, the match between their winners, and the hours on the lawns. */
    private static final class Meeting {
        private static final int MATCHES = 15, LAST_OF_0 = 6, LAST_OF_1 = 13, DECIDER = 14;
        /** Of each match: the players it begins with, or the matches it comes from, and the one that comes of it. */
        private static final int[] ONE = {0, 2, 4, 6, NONE, NONE, NONE, 0, 2, 1, 3, NONE, NONE, NONE, NONE};
        private static final int[] TWO = {1, 3, 5, 7, NONE, NONE, NONE, 4, 6, 5, 7, NONE, NONE, NONE, NONE};
        private static final int[] FROM_ONE = {NONE, NONE, NONE, NONE, 0, 2, 4, NONE, NONE, NONE, NONE, 7, 9, 11, 6};
        private static final int[] FROM_TWO = {NONE, NONE, NONE, NONE, 1, 3, 5, NONE, NONE, NONE, NONE, 8, 10, 12, 13};
        private static final int[] LEADS_TO = {4, 4, 5, 5, 6, 6, 14, 11, 11, 12, 12, 13, 13, 14, NONE};

        private final int[] winners = new int[MATCHES];
        private final int[] hours = new int[MATCHES];
        private int lawnCount = 2;

        Meeting() {
            Arrays.fill(winners, NONE);
            Arrays.fill(hours, NONE);
        }

        static boolean isMatch(int m) {
            return within(m, 0, MATCHES - 1);
        }

        int who(int m, int what) {
            if (what == 2) {
                return at(winners, m);
            }
            if (m == DECIDER && !hasTwoWinners()) {
                return NONE;
            }
            int from = at(what == 0 ? FROM_ONE : FROM_TWO, m);
            return from == NONE ? at(what == 0 ? ONE : TWO, m) : at(winners, from);
        }

        private boolean hasTwoWinners() {
            int one = at(winners, LAST_OF_0);
            int two = at(winners, LAST_OF_1);
            return one != NONE && two != NONE && one != two;
        }

        int give(int m, int player) {
            int one = who(m, 0);
            int two = who(m, 1);
            if (one == NONE || two == NONE || at(winners, m) != NONE || player != one && player != two) {
                return NOT;
            }
            set(winners, m, player);
            return 1;
        }

        int takeBack(int m) {
            if (at(winners, m) == NONE) {
                return NOT;
            }
            int gone = 0;
            int next = m;
            for (int k = 0; k < MATCHES && next != NONE; k++) {
                if (at(winners, next) != NONE) {
                    set(winners, next, NONE);
                    gone++;
                }
                next = at(LEADS_TO, next);
            }
            return gone;
        }

        int best() {
            int one = at(winners, LAST_OF_0);
            return one == at(winners, LAST_OF_1) ? one : at(winners, DECIDER);
        }

        int setLawns(int n) {
            if (laid() > 0) {
                return NOT;
            }
            int was = lawnCount;
            lawnCount = n;
            return was;
        }

        private int laid() {
            int laid = 0;
            for (int m = 0; m < MATCHES; m++) {
                if (at(hours, m) != NONE) {
                    laid++;
                }
            }
            return laid;
        }

        int hourOf(int m) {
            return at(hours, m);
        }

        int place(int m) {
            if (at(hours, m) != NONE) {
                return NOT;
            }
            int h = 0;
            int from = at(FROM_ONE, m);
            if (from != NONE) {
                int one = at(hours, from);
                int two = at(hours, at(FROM_TWO, m));
                if (one == NONE || two == NONE) {
                    return NOT;
                }
                h = Math.max(one, two) + 1;
            }
            // a match is laid one hour behind all others at the latest, so there are never more hours than matches
            while (h < MATCHES && !isFree(m, h)) {
                h++;
            }
            set(hours, m, h);
            return h;
        }

        private boolean isFree(int m, int h) {
            int taken = 0;
            for (int k = 0; k < MATCHES; k++) {
                if (at(hours, k) == h) {
                    if (plays(k, who(m, 0)) || plays(k, who(m, 1))) {
                        return false;
                    }
                    taken++;
                }
            }
            return taken < lawnCount;
        }

        private boolean plays(int m, int player) {
            return player != NONE && (player == who(m, 0) || player == who(m, 1));
        }

        int liftAll() {
            int lifted = laid();
            Arrays.fill(hours, NONE);
            return lifted;
        }
    }
}
