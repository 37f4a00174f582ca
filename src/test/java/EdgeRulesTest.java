/** The boundaries that the document names for the rules of depth and stencil. */
public final class EdgeRulesTest {
    private static final int MIN = Integer.MIN_VALUE;
    private static final int MAX = Integer.MAX_VALUE;
    private static final int FAR = (1 << 24) - 1;
    private static final int ONE = 65536;
    private static final int[] BYTES = {0, 1, 2, 127, 128, 253, 254, 255};
    private static final Checks CHECKS = new Checks();

    private static final String[] TESTS = {
        "0 never", "1 a below b", "2 a is b", "3 a not above b", "4 a above b", "5 a is not b",
        "6 a not below b", "7 always",
    };
    /** For each test: does it hold for a below b, a is b, a above b. */
    private static final boolean[][] HOLDS = {
        {false, false, false}, {true, false, false}, {false, true, false}, {true, true, false},
        {false, false, true}, {true, false, true}, {false, true, true}, {true, true, true},
    };

    private static final String[] DEEDS = {
        "0 it stays", "1 0", "2 the value", "3 one more, at most 255", "4 one less, at least 0",
        "5 its bits turned", "6 one more, 0 behind 255", "7 one less, 255 behind 0",
    };
    /** For each deed, with the value 77: what becomes of each of BYTES. */
    private static final int[][] AFTER = {
        {0, 1, 2, 127, 128, 253, 254, 255}, {0, 0, 0, 0, 0, 0, 0, 0},
        {77, 77, 77, 77, 77, 77, 77, 77}, {1, 2, 3, 128, 129, 254, 255, 255},
        {0, 0, 1, 126, 127, 252, 253, 254}, {255, 254, 253, 128, 127, 2, 1, 0},
        {1, 2, 3, 128, 129, 254, 255, 0}, {255, 0, 1, 126, 127, 252, 253, 254},
    };

    public static void main(String[] args) {
        depthTests();
        depthIsWrittenOrNot();
        depthOff();
        rightDepthTests();
        wrongDepthTests();
        stencilTests();
        stencilTestsUnderMasks();
        deeds();
        deedOfTheValue();
        writeMasks();
        sidesAreApart();
        stencilOff();
        rightStencils();
        wrongSides();
        wrongStencilTests();
        wrongBytes();
        wrongDeeds();
        offLooksAtTheSideAlone();
        CHECKS.end();
    }

    private static boolean holds(int test, int a, int b) {
        return HOLDS[test][Integer.compare(a, b) + 1];
    }

    private static void depthTests() {
        int[] depths = {0, 1, 2, 4999, 5000, 5001, 65535, 65536, FAR - 2, FAR - 1, FAR};
        for (int test = 0; test < 8; test++) {
            CHECKS.sentence("a test of the new depth against the place's: " + TESTS[test]);
            for (int held : depths) {
                PlaceTests p = new PlaceTests();
                p.clear(2, 0, held, 0);
                p.depth(test, false);
                for (int depth : depths) {
                    CHECKS.due(depth + " against " + held, p.draw(0, 0, depth, 0, 0, 0, 0, 0),
                            holds(test, depth, held) ? 3 : 2);
                }
            }
        }
    }

    private static void depthIsWrittenOrNot() {
        CHECKS.sentence("whether the new one is WRITTEN");
        for (int depth : new int[] {0, 1, FAR - 1, FAR}) {
            PlaceTests p = new PlaceTests();
            p.clear(2, 0, 5000, 0);
            p.depth(7, false);
            CHECKS.due("holds", p.draw(0, 0, depth, 0, ONE, 0, 0, 0), 3);
            CHECKS.place("it is not to be", p, 0, 0, new int[] {255, 5000, 0});
            p.depth(0, true);
            CHECKS.due("fails", p.draw(0, 0, depth, 0, 0, ONE, 0, 0), 2);
            CHECKS.place("the test fails", p, 0, 0, new int[] {255, 5000, 0});
            p.depth(7, true);
            CHECKS.due("holds", p.draw(0, 0, depth, 0, 0, ONE, 0, 0), 3);
            CHECKS.place("written", p, 0, 0, new int[] {0xFF00, depth, 0});
        }
    }

    private static void depthOff() {
        CHECKS.sentence("(test -1) none .. Off: it holds, and nothing is written");
        for (boolean written : new boolean[] {false, true}) {
            for (int depth : new int[] {0, 1, 4999, 5000, 5001, FAR}) {
                PlaceTests p = new PlaceTests();
                p.clear(2, 0, 5000, 0);
                p.depth(0, true);
                CHECKS.due("never", p.draw(0, 0, depth, 0, ONE, 0, 0, 0), 2);
                p.depth(-1, written);
                CHECKS.due("off", p.draw(0, 0, depth, 0, ONE, 0, 0, 0), 3);
                CHECKS.place("off", p, 0, 0, new int[] {255, 5000, 0});
            }
        }
    }

    private static void rightDepthTests() {
        CHECKS.sentence("The rule for the depth, or (test -1) none");
        PlaceTests p = new PlaceTests();
        // Against 0, 0 is the same; the answer tells which rule was taken.
        int[] want = {3, 2, 2, 3, 3, 2, 2, 3, 3};
        for (int test = -1; test < 8; test++) {
            p.depth(test, true);
            CHECKS.due("depth(" + test + ", true)", p.draw(0, 0, 0, 0, 0, 0, 0, 0), want[test + 1]);
        }
    }

    private static void wrongDepthTests() {
        CHECKS.sentence("depth: IllegalArgumentException for another test");
        for (int wrong : new int[] {MIN, -2, 8, MAX}) {
            for (boolean written : new boolean[] {false, true}) {
                PlaceTests p = new PlaceTests();
                CHECKS.dueIllegal("depth(" + wrong + ")", () -> p.depth(wrong, written));
                CHECKS.due("still off", p.draw(0, 0, 9, 0, 0, 0, 0, 0), 3);
                CHECKS.due("still off", p.at(0, 0, 1), 0);
                p.depth(4, !written);
                CHECKS.dueIllegal("depth(" + wrong + ")", () -> p.depth(wrong, written));
                CHECKS.due("the test stays", p.draw(0, 0, 0, 0, 0, 0, 0, 0), 2);
                CHECKS.due("the test stays", p.draw(0, 0, 1, 0, 0, 0, 0, 0), 3);
                CHECKS.due("written or not stays", p.at(0, 0, 1), written ? 0 : 1);
                p.depth(-1, !written);
                CHECKS.dueIllegal("depth(" + wrong + ")", () -> p.depth(wrong, written));
                CHECKS.due("off stays", p.draw(0, 0, 0, 0, 0, 0, 0, 0), 3);
                p.clear(2, 0, 77, 0);
                CHECKS.due("off stays, for clearing", p.at(0, 0, 1), 77);
            }
        }
    }

    private static void stencilTests() {
        for (int test = 0; test < 8; test++) {
            CHECKS.sentence("It tests the value .. against the place's stencil: " + TESTS[test]);
            for (int side = 0; side < 2; side++) {
                for (int held : BYTES) {
                    PlaceTests p = new PlaceTests();
                    p.clear(4, 0, 0, held);
                    for (int value : BYTES) {
                        p.stencil(side, test, value, 255, 0, 0, 0, 0);
                        CHECKS.due(value + " against " + held, p.draw(0, 0, 0, side, 0, 0, 0, 0),
                                holds(test, value, held) ? 3 : 1);
                    }
                }
            }
        }
    }

    private static void stencilTestsUnderMasks() {
        CHECKS.sentence("It tests the value and mask against the place's stencil and mask");
        for (int mask : new int[] {0, 1, 2, 127, 128, 254, 255}) {
            for (int test = 0; test < 8; test++) {
                for (int held : BYTES) {
                    PlaceTests p = new PlaceTests();
                    p.clear(4, 0, 0, held);
                    for (int value : BYTES) {
                        p.stencil(1, test, value, mask, 0, 0, 0, 0);
                        CHECKS.due(value + " against " + held + " with the mask " + mask,
                                p.draw(0, 0, 0, 1, 0, 0, 0, 0),
                                holds(test, value & mask, held & mask) ? 3 : 1);
                    }
                }
            }
        }
    }

    /** A place with this stencil, drawn so that the answer comes and the deed for it is done. */
    private static int stencilAfter(int[] rule, int held, int answer) {
        int side = rule[0];
        int deed = rule[1];
        int other = deed == 1 ? 5 : 1;
        PlaceTests p = new PlaceTests();
        p.clear(7, 0x01020304, 10, held);
        p.stencil(side, answer == 1 ? 0 : 7, rule[2], rule[3], rule[4], answer == 1 ? deed : other,
                answer == 2 ? deed : other, answer == 3 ? deed : other);
        p.depth(answer == 2 ? 0 : 7, true);
        CHECKS.due("answer " + answer, p.draw(0, 0, 20, side, 0, 0, 0, 0), answer);
        CHECKS.due("the colour, after answer " + answer, p.at(0, 0, 0),
                answer == 3 ? 0 : 0x01020304);
        CHECKS.due("the depth, after answer " + answer, p.at(0, 0, 1), answer == 3 ? 20 : 10);
        return p.at(0, 0, 2);
    }

    private static void deeds() {
        String[] moments = {"", "the test FAILS", "it holds and the depth's FAILS", "both HOLD"};
        for (int deed = 0; deed < 8; deed++) {
            for (int answer = 1; answer < 4; answer++) {
                CHECKS.sentence("DEEDS, for when " + moments[answer] + ": " + DEEDS[deed]);
                for (int side = 0; side < 2; side++) {
                    for (int i = 0; i < BYTES.length; i++) {
                        int got = stencilAfter(new int[] {side, deed, 77, 255, 255}, BYTES[i],
                                answer);
                        CHECKS.due("the deed of " + BYTES[i] + ", side " + side, got,
                                AFTER[deed][i]);
                    }
                }
            }
        }
    }

    private static void deedOfTheValue() {
        CHECKS.sentence("A deed makes of the stencil: .. 2 the value");
        for (int value : BYTES) {
            for (int mask : new int[] {0, 1, 128, 255}) {
                for (int answer = 1; answer < 4; answer++) {
                    int got = stencilAfter(new int[] {0, 2, value, mask, 255}, 90, answer);
                    CHECKS.due("the value " + value + ", whatever the mask", got, value);
                }
            }
        }
    }

    private static void writeMasks() {
        CHECKS.sentence("of the result the bits of the write mask are written");
        int[][] rows = {
            // held, deed, value, write mask, the stencil afterwards
            {0, 2, 255, 0, 0}, {0, 2, 255, 1, 1}, {0, 2, 255, 128, 128}, {0, 2, 255, 127, 127},
            {0, 2, 255, 254, 254}, {0, 2, 255, 255, 255}, {255, 1, 0, 0, 255}, {255, 1, 0, 1, 254},
            {255, 1, 0, 128, 127}, {255, 1, 0, 254, 1}, {255, 1, 0, 255, 0},
            // What is reckoned is the whole stencil, and not its bits of the mask.
            {255, 6, 0, 0x0F, 0xF0}, {255, 6, 0, 0xF0, 0x0F}, {0, 7, 0, 0x80, 0x80},
            {0, 7, 0, 1, 1}, {0x0F, 3, 0, 0x0F, 0}, {0x0F, 3, 0, 0xF0, 0x1F},
            {0x10, 4, 0, 0xF0, 0}, {0x10, 4, 0, 0x0F, 0x1F}, {255, 3, 0, 1, 255}, {0, 4, 0, 1, 0},
            {0xA5, 5, 0, 0x0F, 0xAA}, {0xA5, 5, 0, 0xF0, 0x55}, {0xA5, 5, 0, 0, 0xA5},
            {0xA5, 0, 0, 255, 0xA5}, {0xA5, 2, 0x3C, 0x18, 0xBD},
        };
        for (int[] row : rows) {
            for (int side = 0; side < 2; side++) {
                for (int answer = 1; answer < 4; answer++) {
                    int got = stencilAfter(new int[] {side, row[1], row[2], 255, row[3]}, row[0],
                            answer);
                    CHECKS.due("deed " + row[1] + " of " + row[0] + ", write mask " + row[3], got,
                            row[4]);
                }
            }
        }
    }

    private static void sidesAreApart() {
        CHECKS.sentence("The STENCIL's rule for each SIDE (0 front, 1 back)");
        for (int side = 0; side < 2; side++) {
            PlaceTests p = new PlaceTests();
            p.stencil(side, 0, 5, 255, 255, 2, 0, 0);
            CHECKS.due("the other is off", p.draw(0, 0, 0, 1 - side, 0, 0, 0, 0), 3);
            CHECKS.due("the other is off", p.at(0, 0, 2), 0);
            p.stencil(1 - side, 7, 6, 255, 255, 0, 0, 2);
            CHECKS.due("this one", p.draw(0, 0, 0, side, 0, 0, 0, 0), 1);
            CHECKS.due("this one's deed", p.at(0, 0, 2), 5);
            CHECKS.due("the other", p.draw(0, 0, 0, 1 - side, 0, 0, 0, 0), 3);
            CHECKS.due("the other's deed", p.at(0, 0, 2), 6);
        }
    }

    private static void stencilOff() {
        CHECKS.sentence("(test -1) none .. Off: it holds, and nothing is written");
        for (int side = 0; side < 2; side++) {
            for (int held : BYTES) {
                PlaceTests p = new PlaceTests();
                p.clear(4, 0, 0, held);
                p.stencil(side, 0, 9, 255, 255, 2, 2, 2);
                p.stencil(1 - side, 0, 9, 255, 255, 2, 2, 2);
                p.stencil(side, -1, 9, 255, 255, 2, 2, 2);
                p.depth(0, true);
                CHECKS.due("off, depth fails", p.draw(0, 0, 0, side, 0, 0, 0, 0), 2);
                CHECKS.due("nothing is written", p.at(0, 0, 2), held);
                p.depth(-1, true);
                CHECKS.due("off", p.draw(0, 0, 0, side, 0, 0, 0, 0), 3);
                CHECKS.due("nothing is written", p.at(0, 0, 2), held);
                CHECKS.due("the other side is on", p.draw(0, 0, 0, 1 - side, 0, 0, 0, 0), 1);
                CHECKS.due("its deed", p.at(0, 0, 2), 9);
            }
        }
    }

    private static void rightStencils() {
        CHECKS.sentence("The rule for the stencil of a side, or (test -1) none");
        for (int side = 0; side < 2; side++) {
            for (int test : new int[] {0, 7}) {
                for (int number : new int[] {0, 255}) {
                    for (int deed : new int[] {0, 7}) {
                        PlaceTests p = new PlaceTests();
                        p.stencil(side, test, number, number, number, deed, deed, deed);
                        CHECKS.due("draw", p.draw(0, 0, 0, side, 0, 0, 0, 0), test == 0 ? 1 : 3);
                        CHECKS.due("the deed", p.at(0, 0, 2), deed == 7 ? number : 0);
                    }
                }
            }
        }
    }

    /** Before it both sides are off, then both are on: each of their numbers shows in a draw. */
    private static void refuses(int... s) {
        String call = "stencil(" + s[0] + ", " + s[1] + ", " + s[2] + ", " + s[3] + ", " + s[4]
                + ", " + s[5] + ", " + s[6] + ", " + s[7] + ")";
        PlaceTests p = new PlaceTests();
        CHECKS.dueIllegal(call,
                () -> p.stencil(s[0], s[1], s[2], s[3], s[4], s[5], s[6], s[7]));
        for (int side = 0; side < 2; side++) {
            CHECKS.due("off after " + call, p.draw(0, 0, 0, side, 0, 0, 0, 0), 3);
            CHECKS.due("off after " + call, p.at(0, 0, 2), 0);
        }
        p.stencil(0, 5, 3, 127, 0x0F, 5, 6, 2);
        p.stencil(1, 5, 4, 127, 0x1F, 5, 3, 2);
        CHECKS.dueIllegal(call,
                () -> p.stencil(s[0], s[1], s[2], s[3], s[4], s[5], s[6], s[7]));
        int[][] draws = {
            // side, depth's test, answer, stencil
            {0, 7, 3, 3}, {0, 7, 1, 12}, {1, 7, 3, 4}, {1, 7, 1, 27}, {0, 0, 2, 28}, {1, 0, 2, 29},
        };
        for (int[] d : draws) {
            p.depth(d[1], false);
            CHECKS.due("after " + call, p.draw(0, 0, 0, d[0], 0, 0, 0, 0), d[2]);
            CHECKS.due("after " + call, p.at(0, 0, 2), d[3]);
        }
        p.clear(4, 0, 0, 255);
        CHECKS.due("cleared after " + call, p.at(0, 0, 2), 0x1F);
    }

    private static void wrongSides() {
        CHECKS.sentence("stencil: IllegalArgumentException for another side");
        for (int wrong : new int[] {MIN, -1, 2, MAX}) {
            refuses(wrong, 0, 1, 1, 1, 1, 1, 1);
            refuses(wrong, 7, 255, 255, 255, 7, 7, 7);
            refuses(wrong, -1, 0, 0, 0, 0, 0, 0);
        }
    }

    private static void wrongStencilTests() {
        CHECKS.sentence("stencil: IllegalArgumentException for another .. test");
        for (int wrong : new int[] {MIN, -2, 8, MAX}) {
            refuses(0, wrong, 1, 1, 1, 1, 1, 1);
            refuses(1, wrong, 255, 255, 255, 7, 7, 7);
        }
    }

    private static void wrongBytes() {
        CHECKS.sentence("stencil: IllegalArgumentException for .. a value or mask that isn't a"
                + " byte");
        for (int wrong : new int[] {MIN, -128, -1, 256, MAX}) {
            for (int side = 0; side < 2; side++) {
                refuses(side, 0, wrong, 1, 1, 1, 1, 1);
                refuses(side, 0, 1, wrong, 1, 1, 1, 1);
                refuses(side, 0, 1, 1, wrong, 1, 1, 1);
                refuses(side, 7, wrong, wrong, wrong, 7, 7, 7);
            }
        }
    }

    private static void wrongDeeds() {
        CHECKS.sentence("stencil: IllegalArgumentException for another .. deed");
        for (int wrong : new int[] {MIN, -1, 8, MAX}) {
            for (int side = 0; side < 2; side++) {
                refuses(side, 0, 1, 1, 1, wrong, 1, 1);
                refuses(side, 0, 1, 1, 1, 1, wrong, 1);
                refuses(side, 0, 1, 1, 1, 1, 1, wrong);
                refuses(side, 7, 255, 255, 255, wrong, wrong, wrong);
            }
        }
    }

    private static void offLooksAtTheSideAlone() {
        CHECKS.sentence("(if test is -1 nothing but the side is looked at)");
        for (int wrong : new int[] {MIN, -2, -1, 8, 256, MAX}) {
            for (int which = 2; which < 9; which++) {
                for (int side = 0; side < 2; side++) {
                    int[] s = {side, -1, 0, 0, 0, 0, 0, 0};
                    for (int i = 2; i < 8; i++) {
                        s[i] = which == i || which == 8 ? wrong : 0;
                    }
                    PlaceTests p = new PlaceTests();
                    p.stencil(side, 0, 9, 255, 0, 2, 2, 2);
                    p.stencil(s[0], s[1], s[2], s[3], s[4], s[5], s[6], s[7]);
                    CHECKS.due("off", p.draw(0, 0, 0, side, 0, 0, 0, 0), 3);
                    p.clear(4, 0, 0, 255);
                    CHECKS.due("off, for clearing", p.at(0, 0, 2), 255);
                }
            }
        }
    }
}
