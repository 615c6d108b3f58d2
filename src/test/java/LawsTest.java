/** Promises 8 and 9: the tape and the laws. */
public final class LawsTest {
    private static final int BAD = -1, NOT = -2, FULL = -3;
    private static final Due due = new Due("LawsTest");

    public static void main(String[] args) {
        bytes();
        full();
        texts();
        faults();
        faultKeepsLaws();
        latterHolds();
        numbers();
        due.end();
    }

    private static void bytes() {
        CroquetLawn x = new CroquetLawn();
        due.is("n 0", x.type(65, 0), BAD);
        due.is("n -1", x.type(65, -1), BAD);
        due.is("n 9", x.type(Tell.number("ABCDEFGH"), 9), BAD);
        due.is("n MIN", x.type(65, Integer.MIN_VALUE), BAD);
        due.is("byte 31", x.type(31, 1), BAD);
        due.is("byte 127", x.type(127, 1), BAD);
        due.is("byte 128", x.type(128, 1), BAD);
        due.is("byte 255", x.type(-1, 1), BAD);
        due.is("the highest byte", x.type(0x1F20, 2), BAD);
        due.is("the lowest byte", x.type(0x207F, 2), BAD);
        due.is("the eighth byte", x.type(0xFF20202020202020L, 8), BAD);
        due.is("bytes above the n lowest", x.type(0xFF00000000007020L, 2), 2);
        due.is("byte 126", x.type(126, 1), 3);
        due.is("what is refused is not typed", x.laws(), -22);
        due.is("the highest first", x.type(Tell.number("p7N"), 3), 3);
        due.is("laws", x.laws(), 1);
        due.is("eight bytes", x.type(Tell.number("p10R;r1N"), 8), 8);
        due.is("laws", x.laws(), 2);
    }

    private static void full() {
        CroquetLawn x = new CroquetLawn();
        due.is("29 blanks", Tell.type(x, " ".repeat(29)), 29);
        due.is("two more", x.type(0x2020, 2), FULL);
        due.is("BAD ahead of FULL", x.type(0x2001, 2), BAD);
        due.is("one more", x.type(0x70, 1), 30);
        due.is("one more", x.type(0x20, 1), FULL);
        due.is("fault at the end", x.laws(), -50);
        due.is("empty then", x.type(0x20, 1), 1);
        due.is("blanks alone", x.laws(), 0);
        due.is("30 bytes", Tell.type(x, "p5R;r2N" + " ".repeat(23)), 30);
        due.is("laws", x.laws(), 2);
    }

    private static void text(String tape, int want) {
        CroquetLawn x = new CroquetLawn();
        due.is("tape '" + tape + "'", Tell.laws(x, tape), want);
        due.is("the tape is empty behind '" + tape + "'", x.type(0x20, 1), 1);
    }

    private static void texts() {
        text("", 0);
        text("   ", 0);
        text("p5R", 1);
        text("r0N", 1);
        text("p99N", 1);
        text("p5R;r2N", 2);
        text("r5N;p2R", 2);
        text("p5R;p2N", 2);
        text("  p  5  R  ;  r  2  N  ", 2);
    }

    private static void faults() {
        text("x", -20);
        text("P5R", -20);
        text(";", -20);
        text("5R", -20);
        text("  x", -22);
        text("p", -21);
        text("p   ", -24);
        text("pR", -21);
        text("p R", -22);
        text("p-5R", -21);
        text("p5", -22);
        text("p5  ", -24);
        text("p5X", -22);
        text("p5r", -22);
        text("p5n", -22);
        text("p5 ;", -23);
        text("p5 5R", -23);
        text("p1 00R", -23);
        text("p5RR", -23);
        text("p5R r2N", -24);
        text("p5R,r2N", -23);
        text("p5R;", -24);
        text("p5R; ", -25);
        text("p5R;;", -24);
        text(";p5R", -20);
        text("p5R;q2N", -24);
        text("p5R;r", -25);
        text("p5R;rN", -25);
        text("p5R;r2", -26);
        text("p5R;r2P", -26);
        text("p5R;r2N;", -27);
        text("p5R;r2N ;", -28);
        text("p5R;r2N;p1R", -27);
        text("p5R;r2Np", -27);
    }

    private static void numbers() {
        text("p100R", -21);
        text("p  100R", -23);
        text("p100", -21);
        text("p5R;r100N", -25);
        text("p999R", -21);
        text("p4294967297R", -21);
        text("p18446744073709551617R", -21);
        text("p09R", 1);
        text("p0099R", 1);
        text("p00100R", -21);
    }

    private static void faultKeepsLaws() {
        CroquetLawn x = new CroquetLawn();
        due.is("fault in the second clause", Tell.laws(x, "p0N;r0R;"), -27);
        due.is("game", x.game(0, 1), 0);
        Tell.strokes(due, x, "P1 H H H H H");
        due.is("p5R holds yet", x.found(0), 1);
        Tell.strokes(due, x, "P1 R0 C R0 C H");
        due.is("r2N holds yet", x.found(3), 2);
    }

    private static void latterHolds() {
        CroquetLawn x = new CroquetLawn();
        due.is("laws", Tell.laws(x, "p0R;p1N"), 2);
        due.is("game", x.game(0, 1), 0);
        Tell.strokes(due, x, "P1 R0");
        due.is("by the latter", x.found(0), 2);
        Tell.strokes(due, x, "P0 R1 C R1 C");
        due.is("too late by it", x.found(2), NOT);
        due.is("no clause of roquets", x.found(5), NOT);
        due.is("laws", Tell.laws(x, "r9N;r1R"), 2);
        due.is("by the latter", x.found(5), 1);
    }
}
