/**
 * "Terms" of the document, a function for each of its sentences, in their order; every answer that
 * is due is written out.
 */
public final class TermsTest {
    private static final String OUTSIDE = " -> throws.IndexOutOfBoundsException";
    private static final String REFUSED = " -> throws.IllegalArgumentException";
    private static final String FRONT_OFF = "stencil(0, -1, 0, 0, 0, 0, 0, 0)";

    /** The channels r, g, b, a are 51, 102, 153, 204. */
    private static final String DRAW_S = "draw(0, 0, 0, 0, 13107, 26214, 39322, 52429) -> 3";
    /** The channels r, g, b, a are 85, 170, 34, 68. */
    private static final String CLEAR_D = "clear(1, 0x4422AA55, 0, 0) -> 1";
    private static final String DRAW_WHITE = "draw(0, 0, 0, 0, 65536, 65536, 65536, 65536) -> 3";

    private static final Checks CHECKS = new Checks();

    public static void main(String[] args) {
        aFrameIsARectangle();
        eachPlaceHasColourDepthAndStencil();
        scissorsAreARectangle();
        openIsInFrameAndScissors();
        testsOfDepths();
        testsOfStencils();
        eachSideHasItsStencilRule();
        stencilTestsBehindTheMask();
        deedsMakeOfTheStencil();
        deedsWriteTheBitsOfTheWriteMask();
        stencilOff();
        depthRule();
        depthOff();
        fixedNumbers();
        placesThatAreNotOpen();
        stencilFails();
        depthFails();
        bothHold();
        colourMask();
        factorsOfS();
        factorsOfD();
        fourFactors();
        equations();
        nearest();
        logicBits();
        logicBeforeBlending();
        clearing();
        clearingByTheRules();
        throwingChangesNothing();
        CHECKS.end();
    }

    private static void run(String... rows) {
        Run.all(CHECKS, rows);
    }

    private static void aFrameIsARectangle() {
        CHECKS.sentence("A FRAME is a rectangle of places, from (x0, y0) on, 1 to 64 wide and"
                + " high.");
        run("frame(5, 6, 3, 2)",
                "clear(1, 9, 0, 0) -> 6",
                "at(5, 6, 0) -> 9", "at(6, 6, 0) -> 9", "at(7, 6, 0) -> 9",
                "at(5, 7, 0) -> 9", "at(6, 7, 0) -> 9", "at(7, 7, 0) -> 9",
                "at(4, 6, 0)" + OUTSIDE, "at(8, 6, 0)" + OUTSIDE,
                "at(5, 5, 0)" + OUTSIDE, "at(5, 8, 0)" + OUTSIDE);
        run("frame(0, 0, 1, 64)", "clear(0, 0, 0, 0) -> 64",
                "frame(0, 0, 64, 1)", "clear(0, 0, 0, 0) -> 64",
                "frame(0, 0, 64, 64)", "clear(1, 9, 0, 0) -> 4096",
                "at(63, 63, 0) -> 9", "at(64, 63, 0)" + OUTSIDE, "at(63, 64, 0)" + OUTSIDE,
                "frame(0, 0, 65, 1)" + REFUSED, "frame(0, 0, 1, 65)" + REFUSED,
                "frame(0, 0, 0, 1)" + REFUSED, "frame(0, 0, 1, 0)" + REFUSED);
    }

    private static void eachPlaceHasColourDepthAndStencil() {
        CHECKS.sentence("Each place has a COLOUR of four CHANNELS r, g, b, a (bytes 0 .. 255; as a"
                + " number a * 2^24 + b * 2^16 + g * 2^8 + r, which may be below 0), a DEPTH"
                + " 0 .. 2^24 - 1 and a STENCIL, a byte.");
        run("draw(0, 0, 0, 0, 257, 514, 771, 1028) -> 3", "at(0, 0, 0) -> 67305985",
                "draw(0, 0, 0, 0, 65536, 0, 0, 0) -> 3", "at(0, 0, 0) -> 255",
                "draw(0, 0, 0, 0, 0, 65536, 0, 0) -> 3", "at(0, 0, 0) -> 65280",
                "draw(0, 0, 0, 0, 0, 0, 65536, 0) -> 3", "at(0, 0, 0) -> 16711680",
                "draw(0, 0, 0, 0, 0, 0, 0, 65536) -> 3", "at(0, 0, 0) -> -16777216",
                DRAW_WHITE, "at(0, 0, 0) -> -1");
        run("clear(2, 0, 16777215, 0) -> 1", "at(0, 0, 1) -> 16777215",
                "clear(2, 0, 16777216, 0)" + REFUSED, "clear(2, 0, -1, 0)" + REFUSED,
                "clear(4, 0, 0, 255) -> 1", "at(0, 0, 2) -> 255",
                "clear(4, 0, 0, 256)" + REFUSED, "clear(4, 0, 0, -1)" + REFUSED);
        run("frame(0, 0, 2, 2)", "scissors(1, 0, 2, 1)", "clear(7, 5, 6, 7) -> 1",
                "at(1, 0, 0) -> 5", "at(1, 0, 1) -> 6", "at(1, 0, 2) -> 7",
                "at(0, 0, 0) -> 0", "at(0, 0, 1) -> 0", "at(0, 0, 2) -> 0",
                "at(0, 1, 0) -> 0", "at(1, 1, 1) -> 0", "at(1, 1, 2) -> 0");
    }

    private static void scissorsAreARectangle() {
        CHECKS.sentence("The SCISSORS are a rectangle x0 <= x < x1, y0 <= y < y1 (as told, or all"
                + " places).");
        run("frame(0, 0, 8, 8)", "clear(0, 0, 0, 0) -> 64",
                "scissors(2, 3, 5, 7)", "clear(0, 0, 0, 0) -> 12",
                draw(2, 3, 3), draw(4, 3, 3), draw(2, 6, 3), draw(4, 6, 3),
                draw(1, 3, 0), draw(5, 3, 0), draw(2, 2, 0), draw(2, 7, 0),
                "scissors(5, 3, 4, 7)", "clear(0, 0, 0, 0) -> 64",
                draw(1, 3, 3), draw(5, 3, 3), draw(2, 2, 3), draw(2, 7, 3),
                "scissors(2, 3, 2, 7)", "clear(0, 0, 0, 0) -> 0", draw(2, 3, 0),
                "scissors(2, 3, 5, 2)", "clear(0, 0, 0, 0) -> 0", draw(2, 3, 0));
    }

    private static void openIsInFrameAndScissors() {
        CHECKS.sentence("A place is OPEN if it is in the frame and in them.");
        run("frame(2, 2, 3, 3)", "scissors(0, 0, 4, 4)", "clear(0, 0, 0, 0) -> 4",
                draw(2, 2, 3), draw(3, 3, 3), draw(4, 2, 0), draw(2, 4, 0), draw(4, 4, 0),
                draw(1, 2, 0), draw(2, 1, 0), draw(1, 1, 0), draw(9, 9, 0),
                "scissors(0, 0, 100, 100)", "clear(0, 0, 0, 0) -> 9", draw(4, 4, 3), draw(5, 4, 0));
    }

    private static String draw(int x, int y, int answer) {
        return "draw(" + x + ", " + y + ", 0, 0, 0, 0, 0, 0) -> " + answer;
    }

    private static final String TESTS = "TESTS of a against b: 0 never, 1 a below b, 2 a is b, 3 a"
            + " not above b, 4 a above b, 5 a is not b, 6 a not below b, 7 always.";
    /** Whether a test holds of 99, 100 and 101 against 100. */
    private static final boolean[][] HOLDS = {
        {false, false, false}, {true, false, false}, {false, true, false}, {true, true, false},
        {false, false, true}, {true, false, true}, {false, true, true}, {true, true, true},
    };

    private static void testsOfDepths() {
        CHECKS.sentence(TESTS);
        for (int test = 0; test < 8; test++) {
            for (int i = 0; i < 3; i++) {
                run("clear(2, 0, 100, 0) -> 1", "depth(" + test + ", false)",
                        "draw(0, 0, " + (99 + i) + ", 0, 0, 0, 0, 0) -> "
                                + (HOLDS[test][i] ? 3 : 2));
            }
        }
    }

    private static void testsOfStencils() {
        CHECKS.sentence(TESTS);
        for (int test = 0; test < 8; test++) {
            for (int i = 0; i < 3; i++) {
                run("clear(4, 0, 0, 100) -> 1",
                        "stencil(0, " + test + ", " + (99 + i) + ", 255, 255, 0, 0, 0)",
                        draw(0, 0, HOLDS[test][i] ? 3 : 1));
            }
        }
    }

    private static void eachSideHasItsStencilRule() {
        CHECKS.sentence("The STENCIL's rule for each SIDE (0 front, 1 back): a test, a VALUE, a"
                + " MASK, a WRITE MASK (bytes), and three DEEDS, for when the test FAILS, when it"
                + " holds and the depth's FAILS, when both HOLD.");
        run("clear(6, 0, 100, 40) -> 1", "depth(1, false)",
                "stencil(0, 6, 50, 255, 255, 3, 5, 2)", "stencil(1, 4, 60, 255, 15, 1, 7, 6)",
                "draw(0, 0, 99, 0, 0, 0, 0, 0) -> 3", "at(0, 0, 2) -> 50",
                "draw(0, 0, 100, 0, 0, 0, 0, 0) -> 2", "at(0, 0, 2) -> 205",
                "draw(0, 0, 99, 0, 0, 0, 0, 0) -> 1", "at(0, 0, 2) -> 206",
                "draw(0, 0, 99, 1, 0, 0, 0, 0) -> 1", "at(0, 0, 2) -> 192",
                FRONT_OFF, "clear(4, 0, 0, 59) -> 1",
                "draw(0, 0, 99, 1, 0, 0, 0, 0) -> 3", "at(0, 0, 2) -> 60",
                "draw(0, 0, 99, 1, 0, 0, 0, 0) -> 1", "at(0, 0, 2) -> 48",
                "draw(0, 0, 100, 1, 0, 0, 0, 0) -> 2", "at(0, 0, 2) -> 63");
        for (int side = 0; side < 2; side++) {
            String start = "stencil(" + side + ", 7, ";
            run(start + "0, 0, 0, 0, 0, 0)", start + "255, 255, 255, 7, 7, 7)",
                    start + "256, 0, 0, 0, 0, 0)" + REFUSED,
                    start + "-1, 0, 0, 0, 0, 0)" + REFUSED,
                    start + "0, 256, 0, 0, 0, 0)" + REFUSED,
                    start + "0, -1, 0, 0, 0, 0)" + REFUSED,
                    start + "0, 0, 256, 0, 0, 0)" + REFUSED,
                    start + "0, 0, -1, 0, 0, 0)" + REFUSED);
        }
    }

    private static void stencilTestsBehindTheMask() {
        CHECKS.sentence("It tests the value and mask against the place's stencil and mask.");
        run("clear(4, 0, 0, 0x35) -> 1",
                "stencil(0, 2, 0xF5, 0x0F, 0, 0, 0, 0)", draw(0, 0, 3),
                "stencil(0, 2, 0xF5, 0xFF, 0, 0, 0, 0)", draw(0, 0, 1),
                "stencil(0, 1, 0x34, 0x01, 0, 0, 0, 0)", draw(0, 0, 3),
                "stencil(0, 4, 0x34, 0x01, 0, 0, 0, 0)", draw(0, 0, 1),
                "stencil(0, 1, 0x7F, 0x40, 0, 0, 0, 0)", draw(0, 0, 1),
                "stencil(0, 4, 0x7F, 0x40, 0, 0, 0, 0)", draw(0, 0, 3),
                "stencil(0, 2, 0xCA, 0x00, 0, 0, 0, 0)", draw(0, 0, 3),
                "stencil(0, 5, 0xCA, 0x00, 0, 0, 0, 0)", draw(0, 0, 1));
    }

    private static final String DEEDS = "A deed makes of the stencil: 0 it stays, 1 0, 2 the value,"
            + " 3 one more, at most 255, 4 one less, at least 0, 5 its bits turned, 6 one more, 0"
            + " behind 255, 7 one less, 255 behind 0; of the result the bits of the write mask are"
            + " written.";

    private static void deedsMakeOfTheStencil() {
        CHECKS.sentence(DEEDS);
        int[] before = {0, 1, 100, 254, 255};
        int[][] after = {
            {0, 1, 100, 254, 255}, {0, 0, 0, 0, 0}, {77, 77, 77, 77, 77}, {1, 2, 101, 255, 255},
            {0, 0, 99, 253, 254}, {255, 254, 155, 1, 0}, {1, 2, 101, 255, 0},
            {255, 0, 99, 253, 254},
        };
        for (int deed = 0; deed < 8; deed++) {
            for (int i = 0; i < before.length; i++) {
                deedInEachCase(before[i], 77, 255, deed, after[deed][i]);
            }
        }
    }

    private static void deedsWriteTheBitsOfTheWriteMask() {
        CHECKS.sentence(DEEDS);
        int[] low = {0x5A, 0x50, 0x53, 0x5B, 0x59, 0x55, 0x5B, 0x59};
        int[] high = {0x5A, 0x0A, 0xCA, 0x5A, 0x5A, 0xAA, 0x5A, 0x5A};
        for (int deed = 0; deed < 8; deed++) {
            deedInEachCase(0x5A, 0xC3, 0x0F, deed, low[deed]);
            deedInEachCase(0x5A, 0xC3, 0xF0, deed, high[deed]);
            deedInEachCase(0x5A, 0xC3, 0x00, deed, 0x5A);
        }
    }

    private static void deedInEachCase(int before, int value, int written, int deed, int after) {
        String clear = "clear(4, 0, 0, " + before + ") -> 1";
        String bytes = value + ", 255, " + written + ", ";
        String at = "at(0, 0, 2) -> " + after;
        int other = deed == 1 ? 2 : 1;
        run(clear, "stencil(0, 0, " + bytes + deed + ", " + other + ", " + other + ")",
                draw(0, 0, 1), at);
        run(clear, "stencil(0, 7, " + bytes + other + ", " + deed + ", " + other + ")",
                "depth(0, true)", draw(0, 0, 2), at);
        run(clear, "stencil(0, 7, " + bytes + other + ", " + other + ", " + deed + ")",
                draw(0, 0, 3), at);
    }

    private static void stencilOff() {
        CHECKS.sentence("(the stencil's rule) Off: it holds, and nothing is written.");
        for (int side = 0; side < 2; side++) {
            String draw = "draw(0, 0, 0, " + side + ", 0, 0, 0, 0) -> ";
            run("clear(4, 0, 0, 5) -> 1", draw + 3, "at(0, 0, 2) -> 5",
                    "stencil(" + side + ", 0, 9, 255, 255, 2, 3, 3)", draw + 1, "at(0, 0, 2) -> 9",
                    "stencil(" + side + ", -1, 9, 255, 255, 2, 3, 3)", draw + 3, "at(0, 0, 2) -> 9",
                    "depth(0, true)", draw + 2, "at(0, 0, 2) -> 9");
        }
    }

    private static void depthRule() {
        CHECKS.sentence("The DEPTH's rule: a test of the new depth against the place's, and whether"
                + " the new one is WRITTEN.");
        run("clear(2, 0, 100, 0) -> 1", "depth(1, true)",
                "draw(0, 0, 100, 0, 0, 0, 0, 0) -> 2", "at(0, 0, 1) -> 100",
                "draw(0, 0, 99, 0, 0, 0, 0, 0) -> 3", "at(0, 0, 1) -> 99",
                "draw(0, 0, 99, 0, 0, 0, 0, 0) -> 2", "at(0, 0, 1) -> 99",
                "depth(1, false)",
                "draw(0, 0, 98, 0, 0, 0, 0, 0) -> 3", "at(0, 0, 1) -> 99",
                "depth(4, true)",
                "draw(0, 0, 98, 0, 0, 0, 0, 0) -> 2", "at(0, 0, 1) -> 99",
                "draw(0, 0, 16777215, 1, 0, 0, 0, 0) -> 3", "at(0, 0, 1) -> 16777215");
    }

    private static void depthOff() {
        CHECKS.sentence("(the depth's rule) Off: it holds, and nothing is written.");
        for (boolean written : new boolean[] {false, true}) {
            run("clear(2, 0, 100, 0) -> 1", "draw(0, 0, 50, 0, 0, 0, 0, 0) -> 3",
                    "at(0, 0, 1) -> 100",
                    "depth(0, true)", "draw(0, 0, 50, 0, 0, 0, 0, 0) -> 2", "at(0, 0, 1) -> 100",
                    "depth(-1, " + written + ")",
                    "draw(0, 0, 50, 0, 0, 0, 0, 0) -> 3", "at(0, 0, 1) -> 100",
                    "draw(0, 0, 150, 1, 0, 0, 0, 0) -> 3", "at(0, 0, 1) -> 100");
        }
    }

    private static void fixedNumbers() {
        CHECKS.sentence("A place that is DRAWN, with a depth, a side, and a colour of four FIXED"
                + " numbers (65536 is 1): each is cut to 0 .. 65536; its byte s is (255 times it"
                + " and 32768) / 65536, rounded down.");
        run("draw(0, 0, 0, 0, 128, 129, 385, 386) -> 3", "at(0, 0, 0) -> 0x02010100",
                "draw(0, 0, 0, 0, 129, 32767, 32768, 65407) -> 3", "at(0, 0, 0) -> 0xFE807F01",
                "draw(0, 0, 0, 0, 65407, 65408, 65535, 65536) -> 3", "at(0, 0, 0) -> 0xFFFFFFFE",
                "draw(0, 0, 0, 0, -1, 65537, -2147483648, 2147483647) -> 3",
                "at(0, 0, 0) -> 0xFF00FF00",
                "draw(0, 0, 0, 0, 65537, -1, 2147483647, -2147483648) -> 3",
                "at(0, 0, 0) -> 0x00FF00FF",
                "draw(0, 0, 0, 0, -65536, 131072, 8421505, -8421505) -> 3",
                "at(0, 0, 0) -> 0x00FFFF00");
    }

    private static void placesThatAreNotOpen() {
        CHECKS.sentence("If the place is not open, nothing is done (0).");
        run("frame(0, 0, 2, 1)", "scissors(0, 0, 1, 1)", "depth(7, true)",
                "stencil(0, 7, 9, 255, 255, 2, 2, 2)", "stencil(1, 0, 9, 255, 255, 2, 2, 2)",
                "draw(1, 0, 5, 0, 65536, 65536, 65536, 65536) -> 0",
                "draw(1, 0, 5, 1, 65536, 65536, 65536, 65536) -> 0",
                "draw(2, 0, 5, 0, 65536, 65536, 65536, 65536) -> 0",
                "draw(0, 1, 5, 0, 65536, 65536, 65536, 65536) -> 0",
                "draw(-1, 0, 5, 1, 65536, 65536, 65536, 65536) -> 0",
                "depth(0, true)", "draw(1, 0, 5, 0, 65536, 65536, 65536, 65536) -> 0",
                "sum(0) -> 0", "sum(1) -> 0", "sum(2) -> 0");
    }

    private static void stencilFails() {
        CHECKS.sentence("Then the stencil's test: if it fails, its deed (1).");
        for (int depthTest = -1; depthTest < 8; depthTest++) {
            run("depth(" + depthTest + ", true)", "stencil(0, 0, 9, 255, 255, 2, 5, 5)",
                    "draw(0, 0, 5, 0, 65536, 65536, 65536, 65536) -> 1",
                    "at(0, 0, 2) -> 9", "at(0, 0, 1) -> 0", "at(0, 0, 0) -> 0");
        }
    }

    private static void depthFails() {
        CHECKS.sentence("Then the depth's: if it fails, the deed for that (2).");
        run("depth(0, true)", "stencil(0, 7, 9, 255, 255, 5, 2, 5)",
                "draw(0, 0, 5, 0, 65536, 65536, 65536, 65536) -> 2",
                "at(0, 0, 2) -> 9", "at(0, 0, 1) -> 0", "at(0, 0, 0) -> 0");
    }

    private static final String OTHERWISE = "Otherwise the deed for both, the depth is written (if"
            + " it is to be), and the colour (3): the new channels are as BLENDING or LOGIC say, or"
            + " s without them; those that the colour MASK has (1 r, 2 g, 4 b, 8 a) are written.";

    private static void bothHold() {
        CHECKS.sentence(OTHERWISE);
        run("depth(7, true)", "stencil(0, 7, 9, 255, 255, 5, 5, 2)",
                "draw(0, 0, 5, 0, 65536, 65536, 65536, 65536) -> 3",
                "at(0, 0, 2) -> 9", "at(0, 0, 1) -> 5", "at(0, 0, 0) -> -1",
                "depth(7, false)", "draw(0, 0, 6, 0, 0, 0, 0, 0) -> 3",
                "at(0, 0, 2) -> 9", "at(0, 0, 1) -> 5", "at(0, 0, 0) -> 0");
        run(CLEAR_D, DRAW_S, "at(0, 0, 0) -> 0xCC996633",
                CLEAR_D, "blend(1, 1, 1, 1, 3, 3)", DRAW_S, "at(0, 0, 0) -> 0x44226633",
                CLEAR_D, "logic(6)", DRAW_S, "at(0, 0, 0) -> 0x88BBCC66",
                CLEAR_D, "logic(-1)", "blend(1, 1, 1, 1, -1, 3)", DRAW_S,
                "at(0, 0, 0) -> 0xCC996633");
    }

    private static void colourMask() {
        CHECKS.sentence(OTHERWISE);
        String[] after = {
            "0x11223344", "0x112233FF", "0x1122FF44", "0x1122FFFF", "0x11FF3344", "0x11FF33FF",
            "0x11FFFF44", "0x11FFFFFF", "0xFF223344", "0xFF2233FF", "0xFF22FF44", "0xFF22FFFF",
            "0xFFFF3344", "0xFFFF33FF", "0xFFFFFF44", "0xFFFFFFFF",
        };
        for (int channels = 0; channels < 16; channels++) {
            String clear = "clear(1, 0x11223344, 0, 0) -> 1";
            String mask = "mask(" + channels + ")";
            String at = "at(0, 0, 0) -> " + after[channels];
            run(clear, mask, DRAW_WHITE, at);
            run(clear, mask, "logic(15)", draw(0, 0, 3), at);
            run(clear, mask, "blend(1, 1, 1, 1, 4, 4)", DRAW_WHITE, at);
        }
    }

    private static final String FACTORS = "BLENDING: with d for the place's channel, c for that of"
            + " a CONSTANT colour, and sa, da, ca for the channels a of all three, a FACTOR of a"
            + " channel is: 0 0, 1 255, 2 s, 3 255 - s, 4 d, 5 255 - d, 6 sa, 7 255 - sa, 8 da, 9"
            + " 255 - da, 10 c, 11 255 - c, 12 ca, 13 255 - ca, 14 the lesser one of sa and 255 -"
            + " da (for channel a: 255).";
    /** The channels r, g, b, a are 17, 119, 221, 136. */
    private static final String CONSTANT_C = "constant(0x88DD7711)";

    private static void factorsOfS() {
        CHECKS.sentence(FACTORS);
        int[][] after = {
            {0, 0, 0, 0}, {51, 102, 153, 204}, {10, 41, 92, 163}, {41, 61, 61, 41},
            {17, 68, 20, 54}, {34, 34, 133, 150}, {41, 82, 122, 163}, {10, 20, 31, 41},
            {14, 27, 41, 54}, {37, 75, 112, 150}, {3, 48, 133, 109}, {48, 54, 20, 95},
            {27, 54, 82, 109}, {24, 48, 71, 95}, {37, 75, 112, 204},
        };
        for (int factor = 0; factor < 15; factor++) {
            run(CLEAR_D, CONSTANT_C,
                    "blend(" + factor + ", 0, " + factor + ", 0, 0, 0)", DRAW_S, is(after[factor]));
        }
        run(CLEAR_D, "blend(14, 0, 14, 0, 0, 0)",
                "draw(0, 0, 0, 0, 13107, 26214, 39322, 13107) -> 3", is(10, 20, 31, 51));
    }

    private static void factorsOfD() {
        CHECKS.sentence(FACTORS);
        int[][] after = {
            {0, 0, 0, 0}, {85, 170, 34, 68}, {17, 68, 20, 54}, {68, 102, 14, 14},
            {28, 113, 5, 18}, {57, 57, 29, 50}, {68, 136, 27, 54}, {17, 34, 7, 14},
            {23, 45, 9, 18}, {62, 125, 25, 50}, {6, 79, 29, 36}, {79, 91, 5, 32},
            {45, 91, 18, 36}, {40, 79, 16, 32}, {62, 125, 25, 68},
        };
        for (int factor = 0; factor < 15; factor++) {
            run(CLEAR_D, CONSTANT_C,
                    "blend(0, " + factor + ", 0, " + factor + ", 0, 0)", DRAW_S, is(after[factor]));
        }
        run(CLEAR_D, "blend(0, 14, 0, 14, 0, 0)",
                "draw(0, 0, 0, 0, 13107, 26214, 39322, 13107) -> 3", is(17, 34, 7, 68));
    }

    private static void fourFactors() {
        CHECKS.sentence("There are four: for s and for d of the channels r, g, b; for s and for d"
                + " of channel a.");
        run(CLEAR_D, "blend(1, 0, 0, 0, 0, 0)", DRAW_S, is(51, 102, 153, 0),
                CLEAR_D, "blend(0, 1, 0, 0, 0, 0)", DRAW_S, is(85, 170, 34, 0),
                CLEAR_D, "blend(0, 0, 1, 0, 0, 0)", DRAW_S, is(0, 0, 0, 204),
                CLEAR_D, "blend(0, 0, 0, 1, 0, 0)", DRAW_S, is(0, 0, 0, 68),
                CLEAR_D, CONSTANT_C, "blend(4, 7, 10, 1, 0, 0)", DRAW_S, is(34, 102, 27, 177));
    }

    private static final String EQUATIONS = "An EQUATION of these and one of channel a: with S"
            + " being s times its factor, and D d times its factor: 0 S + D, 1 S - D, 2 D - S;"
            + " divided by 255, to the nearest (no two are nearest), cut to 0 .. 255; 3 the lesser"
            + " one of s and d, 4 the greater one.";

    private static void equations() {
        CHECKS.sentence(EQUATIONS);
        int[][] after = {
            {136, 255, 187, 255}, {0, 0, 119, 136}, {34, 68, 0, 0}, {51, 102, 34, 68},
            {85, 170, 153, 204},
        };
        for (int equation = 0; equation < 5; equation++) {
            for (int ofA = 0; ofA < 5; ofA++) {
                int[] want = {after[equation][0], after[equation][1], after[equation][2],
                    after[ofA][3]};
                run(CLEAR_D, "blend(1, 1, 1, 1, " + equation + ", " + ofA + ")", DRAW_S, is(want));
            }
        }
        run(CLEAR_D, "blend(0, 0, 0, 0, 3, 4)", DRAW_S, is(51, 102, 34, 204),
                CLEAR_D, "blend(0, 0, 0, 0, 4, 3)", DRAW_S, is(85, 170, 153, 68));
    }

    private static void nearest() {
        CHECKS.sentence(EQUATIONS);
        String ones = "clear(1, 0x01010101, 0, 0) -> 1";
        String drawOnes = "draw(0, 0, 0, 0, 257, 257, 257, 257) -> 3";
        run("constant(0x01FE807F)", ones, "blend(10, 0, 10, 0, 0, 0)", drawOnes, is(0, 1, 1, 0),
                ones, "blend(10, 0, 10, 0, 1, 1)", drawOnes, is(0, 1, 1, 0),
                ones, "blend(0, 10, 0, 10, 2, 2)", drawOnes, is(0, 1, 1, 0),
                // S and D are put together before the division, not behind it.
                "constant(0x807F403F)", ones, "blend(10, 10, 10, 10, 0, 0)", drawOnes,
                is(0, 1, 1, 1),
                "constant(0x80FF7F00)", ones, "blend(1, 10, 1, 10, 1, 1)", drawOnes,
                is(1, 1, 0, 0));
    }

    private static String is(int... channels) {
        return "at(0, 0, 0) -> "
                + Checks.colour(channels[0], channels[1], channels[2], channels[3]);
    }

    private static void logicBits() {
        CHECKS.sentence("LOGIC: a number 0 .. 15: each bit of a channel is the bit of that number"
                + " whose place is 2 times the bit of s and the bit of d.");
        for (int number = 0; number < 16; number++) {
            // s is 1100 and d is 1010, twice: their bits stand in the order of the number's own.
            run("clear(1, 0xAAAAAAAA, 0, 0) -> 1", "logic(" + number + ")",
                    "draw(0, 0, 0, 0, 52429, 52429, 52429, 52429) -> 3",
                    "at(0, 0, 0) -> " + number * 0x11111111);
        }
        String[] after = {
            "0x00000000", "0x33441188", "0x00228844", "0x336699CC", "0x88994422", "0xBBDD55AA",
            "0x88BBCC66", "0xBBFFDDEE", "0x44002211", "0x77443399", "0x4422AA55", "0x7766BBDD",
            "0xCC996633", "0xFFDD77BB", "0xCCBBEE77", "0xFFFFFFFF",
        };
        for (int number = 0; number < 16; number++) {
            run(CLEAR_D, "logic(" + number + ")", DRAW_S, "at(0, 0, 0) -> " + after[number]);
        }
    }

    private static void logicBeforeBlending() {
        CHECKS.sentence("(logic) It goes before blending.");
        run(CLEAR_D, "blend(0, 0, 0, 0, 0, 0)", DRAW_S, is(0, 0, 0, 0),
                CLEAR_D, "logic(12)", DRAW_S, is(51, 102, 153, 204),
                CLEAR_D, "logic(6)", DRAW_S, "at(0, 0, 0) -> 0x88BBCC66",
                CLEAR_D, "logic(0)", "blend(1, 1, 1, 1, 0, 0)", DRAW_S, is(0, 0, 0, 0),
                CLEAR_D, "logic(-1)", DRAW_S, is(136, 255, 187, 255));
    }

    private static final String CLEARING = "A CLEARING makes of all open places: the colour (of"
            + " the channels that the mask has), the depth (if it is written by the rule, or the"
            + " rule is off), the stencil (the bits of the front's write mask, all if its rule is"
            + " off), of these three those that are asked for.";

    private static void clearing() {
        CHECKS.sentence(CLEARING);
        run("frame(0, 0, 3, 2)", "scissors(1, 0, 3, 1)", "clear(7, 5, 6, 7) -> 2",
                "at(0, 0, 0) -> 0", "at(0, 0, 1) -> 0", "at(0, 0, 2) -> 0",
                "at(1, 0, 0) -> 5", "at(1, 0, 1) -> 6", "at(1, 0, 2) -> 7",
                "at(2, 0, 0) -> 5", "at(2, 0, 1) -> 6", "at(2, 0, 2) -> 7",
                "at(1, 1, 0) -> 0", "at(1, 1, 1) -> 0", "at(1, 1, 2) -> 0");
        for (int what = 0; what < 8; what++) {
            run("clear(" + what + ", 5, 6, 7) -> 1",
                    "at(0, 0, 0) -> " + (what % 2 == 1 ? 5 : 0),
                    "at(0, 0, 1) -> " + (what / 2 % 2 == 1 ? 6 : 0),
                    "at(0, 0, 2) -> " + (what / 4 == 1 ? 7 : 0));
        }
    }

    private static void clearingByTheRules() {
        CHECKS.sentence(CLEARING);
        run("mask(5)", "clear(1, 0x11223344, 0, 0) -> 1", "at(0, 0, 0) -> 0x00220044",
                "mask(10)", "clear(1, 0x55667788, 0, 0) -> 1", "at(0, 0, 0) -> 0x55227744",
                "mask(15)", "logic(0)", "blend(0, 0, 0, 0, 0, 0)",
                "clear(1, 0x11223344, 0, 0) -> 1", "at(0, 0, 0) -> 0x11223344");
        run("depth(7, false)", "clear(2, 0, 6, 0) -> 1", "at(0, 0, 1) -> 0",
                "depth(0, true)", "clear(2, 0, 7, 0) -> 1", "at(0, 0, 1) -> 7",
                "depth(-1, false)", "clear(2, 0, 8, 0) -> 1", "at(0, 0, 1) -> 8");
        run("stencil(1, 7, 0, 0, 0xF0, 0, 0, 0)", "clear(4, 0, 0, 0x55) -> 1",
                "at(0, 0, 2) -> 0x55",
                "stencil(0, 0, 0, 0, 0x0F, 0, 0, 0)", "clear(4, 0, 0, 0xAA) -> 1",
                "at(0, 0, 2) -> 0x5A",
                FRONT_OFF, "clear(4, 0, 0, 0x77) -> 1", "at(0, 0, 2) -> 0x77");
    }

    private static void throwingChangesNothing() {
        CHECKS.sentence("A call that throws changes nothing.");
        run("frame(1, 1, 2, 1)", "clear(7, 9, 100, 50) -> 2", "scissors(1, 1, 2, 2)",
                "depth(1, true)", "stencil(0, 2, 50, 255, 255, 1, 0, 3)",
                "stencil(1, 0, 77, 255, 255, 2, 0, 0)", "blend(10, 0, 12, 0, 0, 4)",
                "constant(0x40302010)", "mask(13)",
                "frame(0, 0, 65, 1)" + REFUSED, "frame(1024, 0, 1, 1)" + REFUSED,
                "depth(8, false)" + REFUSED, "depth(-2, false)" + REFUSED,
                "stencil(2, 0, 0, 0, 0, 0, 0, 0)" + REFUSED,
                "stencil(2, -1, 0, 0, 0, 0, 0, 0)" + REFUSED,
                "stencil(0, 8, 0, 0, 0, 0, 0, 0)" + REFUSED,
                "stencil(0, 0, 0, 0, 0, 8, 0, 0)" + REFUSED,
                "stencil(0, 0, 0, 0, 0, 0, 8, 0)" + REFUSED,
                "stencil(1, 7, 0, 0, 0, 0, 0, 8)" + REFUSED,
                "stencil(1, 7, 0, 256, 0, 0, 0, 0)" + REFUSED,
                "blend(1, 1, 1, 1, 0, 5)" + REFUSED, "blend(1, 1, 1, 15, 0, 0)" + REFUSED,
                "logic(16)" + REFUSED, "mask(16)" + REFUSED,
                "clear(8, 0, 0, 0)" + REFUSED, "clear(7, 0, 0, 256)" + REFUSED,
                "draw(1, 1, -1, 0, 0, 0, 0, 0)" + REFUSED,
                "draw(1, 1, 0, 2, 0, 0, 0, 0)" + REFUSED,
                "at(0, 0, 0)" + OUTSIDE, "at(1, 1, 3)" + REFUSED, "drawn(4)" + REFUSED,
                "sum(3)" + REFUSED,
                "sum(0) -> 288", "sum(1) -> 3200", "sum(2) -> 1600",
                "drawn(0) -> 0", "drawn(1) -> 0", "drawn(2) -> 0", "drawn(3) -> 0",
                "draw(2, 1, 0, 0, 0, 0, 0, 0) -> 0", "draw(1, 1, 100, 0, 0, 0, 0, 0) -> 2",
                "draw(1, 1, 99, 0, 65536, 65536, 65536, 65536) -> 3",
                "at(1, 1, 0) -> 0xFF300010", "at(1, 1, 1) -> 99", "at(1, 1, 2) -> 51",
                "draw(1, 1, 0, 1, 0, 0, 0, 0) -> 1", "at(1, 1, 2) -> 77");
    }
}
