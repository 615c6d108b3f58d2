/** The boundary cases that the document names of the tape and the laws: promises 8 and 9, LAWS of its terms. */
public final class LawsEdgesTest {
    private static final int BAD = -1, NOT = -2, FULL = -3;
    private static final String SIGNS = "pr019 ;RNx";
    private static final Due due = new Due("LawsEdgesTest");

    public static void main(String[] args) {
        lengths();
        bytes();
        bytesAboveTheLowest();
        highestFirst();
        fullAt30();
        fullComesWhole();
        emptyWhateverIsAnswered();
        emptyOrBlanksAlone();
        firstByteOfEachPlace();
        endOfEachPlace();
        blanksCountForNothing();
        blanksInNumber();
        numbersInRange();
        numbersBeyond();
        numbersThatWrap();
        thirdClause();
        latterOne();
        faultKeepsLaws();
        shortTexts();
        due.end();
    }

    /** Promise 8: "The n lowest bytes (1 .. 8)"; "BAD: n". */
    private static void lengths() {
        CroquetLawn x = new CroquetLawn();
        long w = Tell.number("ABCDEFGH");
        for (int n : new int[] {Integer.MIN_VALUE, -8, -1, 0, 9, 16, 64, 257, 264, Integer.MAX_VALUE}) {
            due.is("n " + n, x.type(w, n), BAD);
        }
        due.is("n 1", x.type(w, 1), 1);
        due.is("n 8", x.type(w, 8), 9);
        for (int n = 1; n <= 8; n++) {
            due.is("n " + n + " on a new tape", new CroquetLawn().type(w, n), n);
        }
    }

    /** Promise 8: "BAD: .. a byte not 32 .. 126": each byte at each place of each length. */
    private static void bytes() {
        for (int n = 1; n <= 8; n++) {
            for (int place = 0; place < n; place++) {
                CroquetLawn refused = new CroquetLawn();
                for (int sign = 0; sign < 256; sign++) {
                    long w = Tell.number("        ") & ~(255L << 8 * place) | (long) sign << 8 * place;
                    boolean good = sign >= 32 && sign <= 126;
                    CroquetLawn x = good ? new CroquetLawn() : refused;
                    due.is("byte " + sign + " at " + place + " of " + n, x.type(w, n), good ? n : BAD);
                }
                due.is("nothing of what was refused came", refused.type(32, 1), 1);
            }
        }
    }

    /** Bytes above the n lowest are not looked at, whatever they are. */
    private static void bytesAboveTheLowest() {
        for (int n = 1; n < 8; n++) {
            long low = Tell.number("p5R;r2N".substring(0, n));
            due.is("all bits above " + n, new CroquetLawn().type(-1L << 8 * n | low, n), n);
            due.is("no bits above " + n, new CroquetLawn().type(low, n), n);
            due.is("one byte more, which is 255", new CroquetLawn().type(-1L << 8 * n | low, n + 1), BAD);
            due.is("one byte more, which is 0", new CroquetLawn().type(low, n + 1), BAD);
        }
        due.is("all bits", new CroquetLawn().type(-1L, 8), BAD);
        due.is("the top bit alone", new CroquetLawn().type(Long.MIN_VALUE | Tell.number("p5R;r2N "), 8), BAD);
        due.is("nothing", new CroquetLawn().type(0L, 8), BAD);
    }

    /** Promise 8: "Of these the highest first, come behind THE TAPE". */
    private static void highestFirst() {
        String text = "p12R;r34N";
        for (int first = 1; first <= 8; first++) {
            CroquetLawn x = new CroquetLawn();
            int second = text.length() - first;
            due.is("so many", x.type(Tell.number(text.substring(0, first)), first), first);
            due.is("the rest", x.type(Tell.number(text.substring(first)), second), 9);
            due.is("laws", x.laws(), 2);
        }
        CroquetLawn x = new CroquetLawn();
        due.is("the other way round", x.type(Tell.number("R5p"), 3), 3);
        due.is("laws", x.laws(), -20);
    }

    /** Promise 8: "FULL: 30": each length of the tape with each n; what is refused leaves the tape as it was. */
    private static void fullAt30() {
        for (int length = 0; length <= 30; length++) {
            for (int n = 1; n <= 8; n++) {
                CroquetLawn x = new CroquetLawn();
                Tell.type(x, " ".repeat(length));
                boolean full = length + n > 30;
                due.is(n + " behind " + length, x.type(Tell.number("        "), n), full ? FULL : length + n);
                if (full) {
                    due.is("BAD ahead of FULL", x.type(31, n), BAD);
                    due.is("BAD n ahead of FULL", x.type(32, 9), BAD);
                    due.is("only so many are there", Tell.type(x, "p".repeat(30 - length)), length == 30 ? 0 : 30);
                    due.is("laws", x.laws(), length == 30 ? 0 : length == 29 ? -50 : -21 - length);
                }
            }
        }
    }

    /** Bytes come all or none: a part that would have fitted does not come. */
    private static void fullComesWhole() {
        CroquetLawn x = new CroquetLawn();
        due.is("27 bytes", Tell.type(x, "p5R;r2N" + " ".repeat(20)), 27);
        due.is("four more", x.type(Tell.number("   ;"), 4), FULL);
        due.is("three more", x.type(Tell.number("   "), 3), 30);
        due.is("laws of 30 bytes", x.laws(), 2);
        Tell.type(x, " ".repeat(22) + "p5R;r2N;");
        due.is("fault at the last of 30", x.laws(), -49);
        Tell.type(x, " ".repeat(23) + "p5R;r2 ");
        due.is("fault at the end of 30", x.laws(), -50);
        Tell.type(x, " ".repeat(23) + "p5R;r2N");
        due.is("laws to the last of 30", x.laws(), 2);
    }

    /** Promise 9: "THE TAPE, which is empty then (whatever is answered)". */
    private static void emptyWhateverIsAnswered() {
        CroquetLawn x = new CroquetLawn();
        for (String text : new String[] {"p5R;r2N", "r1N", "   ", "", "x", "p5R;", "p100R", "p5R;r2N;", "   p"}) {
            Tell.type(x, text);
            x.laws();
            due.is("first byte behind '" + text + "'", x.type(Tell.number("p"), 1), 1);
            due.is("laws of one byte", x.laws(), -21);
        }
    }

    /** Promise 9: "An empty TAPE, or one of blanks alone: 0": laws without clauses, each length. */
    private static void emptyOrBlanksAlone() {
        for (int length = 0; length <= 30; length++) {
            CroquetLawn x = Tell.game(due, 0, 0);
            Tell.type(x, " ".repeat(length));
            due.is("laws of " + length + " blanks", x.laws(), 0);
            Tell.strokes(due, x, "P1 R0 C R0");
            due.is("no clause of plays", x.found(0), NOT);
            due.is("no clause of roquets", x.found(3), NOT);
        }
    }

    private static void text(String tape, int want) {
        CroquetLawn x = new CroquetLawn();
        due.is("tape '" + tape + "'", Tell.laws(x, tape), want);
    }

    /** Promise 9: "The place of the first byte (behind blanks) that can't stand there": all signs at all places. */
    private static void firstByteOfEachPlace() {
        String[] heads = {"", "p", "p5", "p55", "p5R", "p5R;", "p5R;r", "p5R;r5", "p5R;r55", "p5R;r5N"};
        String[] may = {"pr", "0123456789", "0123456789RN", "RN", ";", "pr", "0123456789", "0123456789RN", "RN", ""};
        for (int k = 0; k < heads.length; k++) {
            for (char sign = 33; sign < 127; sign++) {
                boolean digitBehindTwo = heads[k].endsWith("55") && sign >= '0' && sign <= '9';
                for (String blanks : new String[] {"", " ", "    "}) {
                    if (may[k].indexOf(sign) >= 0 || digitBehindTwo && blanks.isEmpty()) {
                        continue;
                    }
                    if (blanks.isEmpty() || !heads[k].isEmpty()) {
                        text(heads[k] + blanks + sign, -20 - heads[k].length() - blanks.length());
                    }
                }
            }
        }
        text("  x", -22);
        text("xp5R", -20);
    }

    /** Promise 9: "(the end: how many bytes there are)". */
    private static void endOfEachPlace() {
        String[] heads = {"p", "p5", "p55", "p5R;", "p5R;r", "p5R;r5", "p5R;r55"};
        for (String head : heads) {
            for (int blanks = 0; head.length() + blanks <= 30; blanks++) {
                text(head + " ".repeat(blanks), -20 - head.length() - blanks);
            }
        }
    }

    /** Promise 9: "Bytes 32 count for nothing": between any two parts, ahead of them and behind them. */
    private static void blanksCountForNothing() {
        String[] parts = {"", "p", "12", "R", ";", "r", "3", "N"};
        for (int k = 0; k <= parts.length; k++) {
            StringBuilder text = new StringBuilder();
            for (int part = 0; part < parts.length; part++) {
                text.append(part == k ? "      " : "").append(parts[part]);
            }
            text(text.append(k == parts.length ? "      " : "").toString(), 2);
        }
        text(" p 1 R ; r 3 N ", 2);
        text("      p      99      R        ", 1);
    }

    /** Promise 9: "But do not stand in a number": what follows is not a part of it. */
    private static void blanksInNumber() {
        text("p1 2R", -23);
        text("p 1  2R", -25);
        text("p0 0R", -23);
        text("p5R;r9 9N", -27);
        text("p99 9R", -24);
    }

    /** Terms: "a number 0 .. 99": all of them are numbers, and each means itself. */
    private static void numbersInRange() {
        for (int number = 0; number <= 99; number++) {
            text("p" + number + "R", 1);
            text("r" + number + "N;p" + number + "N", 2);
        }
        text("p00R", 1);
        text("p099R", 1);
    }

    /** Promise 9: "of a number beyond 99 its first byte": ahead of what may be wrong behind it. */
    private static void numbersBeyond() {
        for (int number = 100; number <= 1100; number++) {
            text("p" + number + "R", -21);
        }
        text("p100", -21);
        text("p100x", -21);
        text("p 100 R", -22);
        text("p   999", -24);
        text("p5R;r100N", -25);
        text("p5R; r 100N;", -27);
        text("p0100R", -21);
    }

    /** Numbers that would be 5 again in 8, 16, 32 or 64 bits, and such that fill the tape. */
    private static void numbersThatWrap() {
        for (String number : new String[] {"261", "65541", "4294967301", "2147483653", "18446744073709551621",
            "9223372036854775813", "10000000005", "9".repeat(28), "1" + "0".repeat(27)}) {
            text("p" + number + "R", -21);
            text(" p" + number.substring(0, Math.min(27, number.length())), -22);
        }
        text("p" + "0".repeat(27) + "5R", 1);
    }

    /** Promise 9: "a third CLAUSE's ; can't"; terms: "0 to 2 CLAUSES with ; between". */
    private static void thirdClause() {
        text("p5R;r2N;", -27);
        text("p5R;r2N;p5R", -27);
        text("p5R;r2N  ;p5R", -29);
        text("p5R;p2N;r5R", -27);
        text("p5R;r2N", 2);
        text(";", -20);
        text(";p5R", -20);
        text("p5R;;r2N", -24);
        text("p5Rr2N", -23);
    }

    /** Promise 9: "of a KIND told twice the latter one holds": both count, and the other kind has none. */
    private static void latterOne() {
        CroquetLawn x = Tell.game(due, 0, 0);
        due.is("laws", Tell.laws(x, "p9R;p0N"), 2);
        Tell.strokes(due, x, "P1 R0 C R0");
        due.is("by the latter it is too late", x.found(0), NOT);
        due.is("no clause of roquets", x.found(3), NOT);
        due.is("laws", Tell.laws(x, "p0N;p9R"), 2);
        due.is("by the latter it is in time", x.found(0), 1);
        due.is("laws", Tell.laws(x, "r0R;r0N"), 2);
        Tell.strokes(due, x, "P1 R0 C R0");
        due.is("by the latter", x.found(3), 2);
        due.is("no clause of plays", x.found(0), NOT);
    }

    /** A faulty tape changes no law, however much of it could be read. */
    private static void faultKeepsLaws() {
        for (String tape : new String[] {"x", "p0N;", "p0N;r0R;", "p0N;r100R", "r0R;p0Nx", "p0N;p", ";"}) {
            CroquetLawn x = Tell.game(due, 0, 0);
            due.is("fault in '" + tape + "'", Tell.laws(x, tape) <= -20 ? 1 : 0, 1);
            Tell.strokes(due, x, "P1 R0 C R0 C H");
            due.is("r2N holds behind '" + tape + "'", x.found(3), 2);
            due.is("p5R holds behind '" + tape + "'", x.found(0), 1);
        }
    }

    /** All texts of up to five bytes of ten signs, against a second reading of the document. */
    private static void shortTexts() {
        char[] signs = new char[5];
        for (int length = 0; length <= 5; length++) {
            int all = 1;
            for (int k = 0; k < length; k++) {
                all *= SIGNS.length();
            }
            for (int number = 0; number < all; number++) {
                int rest = number;
                for (int k = 0; k < length; k++) {
                    signs[k] = SIGNS.charAt(rest % SIGNS.length());
                    rest /= SIGNS.length();
                }
                againstModel(new String(signs, 0, length));
            }
        }
    }

    private static void againstModel(String text) {
        CroquetLawn x = new CroquetLawn();
        Model y = new Model();
        if (!text.isEmpty()) {
            due.is("type", x.type(Tell.number(text), text.length()), y.type(Tell.number(text), text.length()));
        }
        due.is("laws of '" + text + "'", x.laws(), y.laws());
    }
}
