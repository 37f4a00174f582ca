/** Promises 4 (depth) and 5 (stencil). */
public final class RulesTest {
    private static final int MIN = Integer.MIN_VALUE;
    private static final int MAX = Integer.MAX_VALUE;
    private static final int FAR = (1 << 24) - 1;
    private static final Checks CHECKS = new Checks();

    /** For each test: does it hold for a below b, a is b, a above b. */
    private static final boolean[][] HOLDS = {
        {false, false, false}, {true, false, false}, {false, true, false}, {true, true, false},
        {false, false, true}, {true, false, true}, {false, true, true}, {true, true, true},
    };

    public static void main(String[] args) {
        depthTests();
        depthOff();
        wrongDepths();
        stencilTests();
        deeds();
        stencilOff();
        wrongStencils();
        CHECKS.end();
    }

    private static void depthTests() {
        for (int test = 0; test < 8; test++) {
            for (int order = 0; order < 3; order++) {
                for (int written = 0; written < 2; written++) {
                    PlaceTests p = new PlaceTests();
                    p.clear(2, 0, 5000, 0);
                    p.depth(test, written == 1);
                    int depth = 4999 + order;
                    boolean holds = HOLDS[test][order];
                    String when = "depth(" + test + ", " + written + ") of " + depth;
                    CHECKS.due(when, p.draw(0, 0, depth, 0, 65536, 0, 0, 0), holds ? 3 : 2);
                    CHECKS.place(when, p, 0, 0, new int[] {
                        holds ? 255 : 0, holds && written == 1 ? depth : 5000, 0,
                    });
                }
            }
        }
        PlaceTests p = new PlaceTests();
        p.depth(4, true);
        CHECKS.due("the farthest", p.draw(0, 0, FAR, 0, 0, 0, 0, 0), 3);
        CHECKS.due("the farthest is held", p.at(0, 0, 1), FAR);
    }

    private static void depthOff() {
        PlaceTests p = new PlaceTests();
        p.clear(2, 0, 8, 0);
        p.depth(0, true);
        CHECKS.due("never", p.draw(0, 0, 9, 0, 0, 0, 0, 0), 2);
        p.depth(-1, true);
        CHECKS.due("off", p.draw(0, 0, 9, 0, 65536, 0, 0, 0), 3);
        CHECKS.place("off: not written", p, 0, 0, new int[] {255, 8, 0});
    }

    private static void wrongDepths() {
        PlaceTests p = new PlaceTests();
        p.depth(1, false);
        for (int test : new int[] {-2, 8, MIN, MAX}) {
            CHECKS.dueIllegal("depth(" + test + ", true)", () -> p.depth(test, true));
        }
        CHECKS.due("the rule stays", p.draw(0, 0, 0, 0, 0, 0, 0, 0), 2);
        p.depth(7, false);
        CHECKS.dueIllegal("depth(9, true)", () -> p.depth(9, true));
        CHECKS.due("the rule stays", p.draw(0, 0, 6, 0, 0, 0, 0, 0), 3);
        CHECKS.due("it is not written", p.at(0, 0, 1), 0);
    }

    private static void stencilTests() {
        int[] held = {0x46, 0x45, 0x44};
        for (int side = 0; side < 2; side++) {
            for (int test = 0; test < 8; test++) {
                for (int order = 0; order < 3; order++) {
                    PlaceTests p = new PlaceTests();
                    p.clear(4, 0, 0, held[order]);
                    // The high bits differ and the mask hides them.
                    p.stencil(side, test, 0x95, 15, 255, 1, 0, 2);
                    boolean holds = HOLDS[test][order];
                    String when = "side " + side + " test " + test + " held " + held[order];
                    CHECKS.due(when + ": the other side", p.draw(0, 0, 0, 1 - side, 0, 0, 0, 0), 3);
                    CHECKS.due(when + ": nothing is written", p.at(0, 0, 2), held[order]);
                    CHECKS.due(when, p.draw(0, 0, 0, side, 0, 65536, 0, 0), holds ? 3 : 1);
                    CHECKS.place(when, p, 0, 0,
                            new int[] {holds ? 0xFF00 : 0, 0, holds ? 0x95 : 0});
                }
            }
        }
    }

    private static int afterDeed(int deed, int held, int value) {
        int[] results = {
            held, 0, value, held == 255 ? 255 : held + 1, held == 0 ? 0 : held - 1, 255 - held,
            held == 255 ? 0 : held + 1, held == 0 ? 255 : held - 1,
        };
        return results[deed];
    }

    private static void deeds() {
        int[] stencils = {0, 1, 2, 0x5A, 127, 128, 254, 255};
        int[] masks = {255, 0, 0x0F, 0xF0, 0x55};
        for (int deed = 0; deed < 8; deed++) {
            for (int held : stencils) {
                for (int written : masks) {
                    for (int answer = 1; answer < 4; answer++) {
                        for (int side = 0; side < 2; side++) {
                            oneDeed(deed, held, written, answer, side);
                        }
                    }
                }
            }
        }
    }

    private static void oneDeed(int deed, int held, int written, int answer, int side) {
        PlaceTests p = new PlaceTests();
        p.clear(4, 0, 0, held);
        // Another deed for the other answers, so that a mistaken one shows.
        int other = (deed + 5) % 8;
        p.stencil(side, answer == 1 ? 0 : 7, 0xA7, 0x3C, written, answer == 1 ? deed : other,
                answer == 2 ? deed : other, answer == 3 ? deed : other);
        p.stencil(1 - side, answer == 1 ? 7 : 0, 0x11, 255, 255, 1, 2, 5);
        p.depth(answer == 2 ? 0 : 7, true);
        String when = "deed " + deed + " of " + held + " mask " + written + " side " + side;
        CHECKS.due(when, p.draw(0, 0, 3, side, 65536, 65536, 65536, 65536), answer);
        int result = afterDeed(deed, held, 0xA7);
        CHECKS.place(when, p, 0, 0, new int[] {
            answer == 3 ? -1 : 0, answer == 3 ? 3 : 0, held & (255 - written) | result & written,
        });
    }

    private static void stencilOff() {
        for (int side = 0; side < 2; side++) {
            PlaceTests p = new PlaceTests();
            p.clear(4, 0, 0, 7);
            p.stencil(0, 0, 9, 255, 255, 2, 2, 2);
            p.stencil(1, 0, 9, 255, 255, 2, 2, 2);
            p.stencil(side, -1, MIN, MAX, 256, 8, -1, 99);
            p.depth(0, false);
            CHECKS.due("off, depth fails", p.draw(0, 0, 0, side, 0, 0, 0, 0), 2);
            CHECKS.due("nothing is written", p.at(0, 0, 2), 7);
            p.depth(-1, false);
            CHECKS.due("off", p.draw(0, 0, 0, side, 0, 0, 0, 0), 3);
            CHECKS.due("nothing is written", p.at(0, 0, 2), 7);
            CHECKS.due("the other side", p.draw(0, 0, 0, 1 - side, 0, 0, 0, 0), 1);
            CHECKS.due("its deed", p.at(0, 0, 2), 9);
        }
    }

    private static void wrongStencils() {
        PlaceTests p = new PlaceTests();
        p.stencil(0, 7, 3, 255, 255, 0, 0, 2);
        p.stencil(1, 7, 4, 255, 255, 0, 0, 2);
        int[] right = {0, 2, 200, 100, 50, 1, 1, 1};
        int[][] wrong = {
            {-1, 2, MIN, MAX}, {-2, 8, MIN, MAX}, {-1, 256, MIN, MAX}, {-1, 256, MIN, MAX},
            {-1, 256, MIN, MAX}, {-1, 8, MIN, MAX}, {-1, 8, MIN, MAX}, {-1, 8, MIN, MAX},
        };
        for (int which = 0; which < right.length; which++) {
            for (int number : wrong[which]) {
                for (int side = 0; side < 2; side++) {
                    int[] s = right.clone();
                    s[0] = side;
                    s[which] = number;
                    CHECKS.dueIllegal("stencil's argument " + which + " of " + number,
                            () -> p.stencil(s[0], s[1], s[2], s[3], s[4], s[5], s[6], s[7]));
                    CHECKS.due("front stays", p.draw(0, 0, 0, 0, 0, 0, 0, 0), 3);
                    CHECKS.due("front's deed", p.at(0, 0, 2), 3);
                    CHECKS.due("back stays", p.draw(0, 0, 0, 1, 0, 0, 0, 0), 3);
                    CHECKS.due("back's deed", p.at(0, 0, 2), 4);
                }
            }
        }
        for (int side : wrong[0]) {
            CHECKS.dueIllegal("stencil(" + side + ", -1, ..)",
                    () -> p.stencil(side, -1, 0, 0, 0, 0, 0, 0));
        }
        p.stencil(0, 0, 255, 255, 255, 7, 7, 7);
        p.stencil(1, 7, 0, 0, 0, 0, 0, 0);
        CHECKS.due("the edges are right", p.draw(0, 0, 0, 0, 0, 0, 0, 0), 1);
    }
}
