import java.math.BigInteger;

/** The boundaries that the document names for a new object, the frame, its places and sums. */
public final class EdgeFrameTest {
    private static final int MIN = Integer.MIN_VALUE;
    private static final int MAX = Integer.MAX_VALUE;
    private static final int FAR = (1 << 24) - 1;
    private static final int ONE = 65536;
    private static final Checks CHECKS = new Checks();

    public static void main(String[] args) {
        newObjectIsOnePlace();
        newObjectHasNoRules();
        newObjectIsOpen();
        newObjectHasWholeMask();
        rightSizes();
        wrongSizes();
        rightStarts();
        wrongStarts();
        newFrameIsAllZero();
        rulesStay();
        scissorsStay();
        colourNumbers();
        depthsHeld();
        stencilsHeld();
        placesNotInTheFrame();
        whatOfAt();
        whatOfAtGoesFirst();
        sumGoesRowByRow();
        sumBeginsWithZero();
        sumWraps();
        whatOfSum();
        CHECKS.end();
    }

    private static void newObjectIsOnePlace() {
        CHECKS.sentence("A frame of one place at (0, 0), all 0");
        PlaceTests p = new PlaceTests();
        CHECKS.place("new", p, 0, 0, new int[] {0, 0, 0});
        for (int beside : new int[] {MIN, -1, 1, MAX}) {
            CHECKS.outside("new", p, beside, 0);
            CHECKS.outside("new", p, 0, beside);
            CHECKS.outside("new", p, beside, beside);
            CHECKS.due("draw beside it", p.draw(beside, 0, 0, 0, ONE, ONE, ONE, ONE), 0);
            CHECKS.due("draw beside it", p.draw(0, beside, 0, 0, ONE, ONE, ONE, ONE), 0);
        }
        for (int what = 0; what < 3; what++) {
            CHECKS.due("new: sum(" + what + ")", p.sum(what), 0);
        }
        CHECKS.due("clear", p.clear(0, 0, 0, 0), 1);
        for (int answer = 0; answer < 4; answer++) {
            CHECKS.due("new: drawn(" + answer + ")", new PlaceTests().drawn(answer), 0);
        }
    }

    private static void newObjectHasNoRules() {
        CHECKS.sentence("all rules off");
        for (int side = 0; side < 2; side++) {
            for (int depth : new int[] {0, 1, FAR}) {
                PlaceTests p = new PlaceTests();
                CHECKS.due("clear", p.clear(7, 0x0180FF7F, 1, 1), 1);
                CHECKS.place("cleared", p, 0, 0, new int[] {0x0180FF7F, 1, 1});
                CHECKS.due("draw", p.draw(0, 0, depth, side, 0, ONE, 0, ONE), 3);
                CHECKS.place("drawn", p, 0, 0, new int[] {0xFF00FF00, 1, 1});
            }
        }
    }

    private static void newObjectIsOpen() {
        CHECKS.sentence("all places open");
        PlaceTests p = new PlaceTests();
        CHECKS.due("draw the one place", p.draw(0, 0, 0, 0, 0, 0, 0, 0), 3);
        int[] starts = {0, 1023};
        for (int x0 : starts) {
            for (int y0 : starts) {
                p.frame(x0, y0, 64, 64);
                CHECKS.due("clear", p.clear(0, 0, 0, 0), 4096);
                CHECKS.due("the first", p.draw(x0, y0, 0, 0, 0, 0, 0, 0), 3);
                CHECKS.due("the last", p.draw(x0 + 63, y0 + 63, 0, 0, 0, 0, 0, 0), 3);
            }
        }
    }

    private static void newObjectHasWholeMask() {
        CHECKS.sentence("the colour mask 15");
        PlaceTests p = new PlaceTests();
        p.draw(0, 0, 0, 0, ONE, ONE, ONE, ONE);
        CHECKS.due("drawn", p.at(0, 0, 0), -1);
        p.clear(1, 0x01010101, 0, 0);
        CHECKS.due("cleared", p.at(0, 0, 0), 0x01010101);
    }

    /** Its corners are places, what lies beside them is not, and all of it is cleared. */
    private static void isFrame(String when, PlaceTests p, int[] f) {
        int lastX = f[0] + f[2] - 1;
        int lastY = f[1] + f[3] - 1;
        CHECKS.due(when + ": clear", p.clear(7, 5, 6, 7), f[2] * f[3]);
        for (int x : new int[] {f[0], lastX}) {
            for (int y : new int[] {f[1], lastY}) {
                CHECKS.place(when, p, x, y, new int[] {5, 6, 7});
                CHECKS.due(when + ": draw(" + x + ", " + y + ")", Checks.drawBytes(p, x, y, 5), 3);
            }
            CHECKS.outside(when, p, x, f[1] - 1);
            CHECKS.outside(when, p, x, lastY + 1);
            CHECKS.due(when + ": above", p.draw(x, f[1] - 1, 0, 0, 0, 0, 0, 0), 0);
            CHECKS.due(when + ": below", p.draw(x, lastY + 1, 0, 0, 0, 0, 0, 0), 0);
        }
        for (int y : new int[] {f[1], lastY}) {
            CHECKS.outside(when, p, f[0] - 1, y);
            CHECKS.outside(when, p, lastX + 1, y);
            CHECKS.due(when + ": left", p.draw(f[0] - 1, y, 0, 0, 0, 0, 0, 0), 0);
            CHECKS.due(when + ": right", p.draw(lastX + 1, y, 0, 0, 0, 0, 0, 0), 0);
        }
    }

    private static void takes(int x0, int y0, int wide, int high) {
        int[] f = {x0, y0, wide, high};
        PlaceTests p = new PlaceTests();
        p.frame(x0, y0, wide, high);
        isFrame("frame(" + x0 + ", " + y0 + ", " + wide + ", " + high + ")", p, f);
    }

    private static void refuses(int x0, int y0, int wide, int high) {
        String call = "frame(" + x0 + ", " + y0 + ", " + wide + ", " + high + ")";
        PlaceTests fresh = new PlaceTests();
        CHECKS.dueIllegal(call, () -> fresh.frame(x0, y0, wide, high));
        isFrame("new, after " + call, fresh, new int[] {0, 0, 1, 1});
        PlaceTests p = new PlaceTests();
        p.frame(20, 30, 3, 2);
        p.clear(7, 77, 78, 79);
        CHECKS.dueIllegal(call, () -> p.frame(x0, y0, wide, high));
        for (int y = 30; y < 32; y++) {
            for (int x = 20; x < 23; x++) {
                CHECKS.place("after " + call, p, x, y, new int[] {77, 78, 79});
            }
        }
        isFrame("after " + call, p, new int[] {20, 30, 3, 2});
    }

    private static void rightSizes() {
        CHECKS.sentence("a rectangle of places, from (x0, y0) on, 1 to 64 wide and high");
        int[] right = {1, 2, 63, 64};
        for (int wide : right) {
            for (int high : right) {
                takes(7, 9, wide, high);
            }
        }
    }

    private static void wrongSizes() {
        CHECKS.sentence("IllegalArgumentException if wide or high is not 1 .. 64");
        for (int wrong : new int[] {MIN, -64, -1, 0, 65, 65536, MAX}) {
            for (int right : new int[] {1, 64}) {
                refuses(7, 9, wrong, right);
                refuses(7, 9, right, wrong);
            }
            refuses(7, 9, wrong, wrong);
        }
    }

    private static void rightStarts() {
        CHECKS.sentence("from (x0, y0) on");
        int[] right = {0, 1, 1022, 1023};
        for (int x0 : right) {
            for (int y0 : right) {
                takes(x0, y0, 1, 1);
                takes(x0, y0, 3, 2);
                takes(x0, y0, 64, 64);
            }
        }
    }

    private static void wrongStarts() {
        CHECKS.sentence("IllegalArgumentException if .. x0 or y0 not 0 .. 1023");
        for (int wrong : new int[] {MIN, -1, 1024, MAX}) {
            for (int right : new int[] {0, 1023}) {
                refuses(wrong, right, 2, 2);
                refuses(right, wrong, 2, 2);
            }
            refuses(wrong, wrong, 2, 2);
        }
    }

    private static void newFrameIsAllZero() {
        CHECKS.sentence("A new frame, all 0");
        int[][] frames = {
            {0, 0, 1, 1}, {0, 0, 64, 64}, {0, 0, 64, 64}, {5, 5, 1, 1}, {0, 0, 64, 63},
            {1023, 1023, 64, 64}, {0, 0, 1, 64}, {0, 0, 64, 1}, {2, 2, 8, 8}, {0, 0, 64, 64},
        };
        PlaceTests p = new PlaceTests();
        p.clear(7, -1, FAR, 255);
        for (int[] f : frames) {
            String when = "frame(" + f[0] + ", " + f[1] + ", " + f[2] + ", " + f[3] + ")";
            p.frame(f[0], f[1], f[2], f[3]);
            for (int what = 0; what < 3; what++) {
                CHECKS.due(when + ": sum(" + what + ")", p.sum(what), 0);
            }
            CHECKS.place(when, p, f[0], f[1], new int[] {0, 0, 0});
            CHECKS.place(when, p, f[0] + f[2] - 1, f[1] + f[3] - 1, new int[] {0, 0, 0});
            p.clear(7, -1, FAR, 255);
        }
        everyPlaceIsZero();
    }

    /** Each place by itself, for a sum may wrap to 0; several objects, for one has 512 calls. */
    private static void everyPlaceIsZero() {
        for (int y = 0; y < 64; y++) {
            PlaceTests p = new PlaceTests();
            p.frame(3, 4, 64, 64);
            p.clear(7, -1, FAR, 255);
            p.frame(0, 0, 64, 64);
            for (int x = 0; x < 64; x++) {
                CHECKS.place("a new frame", p, x, y, new int[] {0, 0, 0});
            }
        }
    }

    private static void rulesStay() {
        CHECKS.sentence("rules and scissors stay");
        PlaceTests p = new PlaceTests();
        p.depth(4, true);
        p.stencil(0, 7, 9, 255, 0x7F, 0, 3, 2);
        p.stencil(1, 0, 8, 255, 255, 2, 0, 0);
        p.constant(0x40302010);
        p.blend(10, 0, 12, 0, 0, 0);
        p.mask(13);
        p.draw(0, 0, 0, 1, 0, 0, 0, 0);
        for (int[] f : new int[][] {{0, 0, 1, 1}, {3, 4, 64, 64}, {1023, 1023, 2, 2}}) {
            int x = f[0];
            int y = f[1];
            p.frame(x, y, f[2], f[3]);
            CHECKS.due("the depth's", p.draw(x, y, 0, 0, ONE, ONE, ONE, ONE), 2);
            CHECKS.place("the front's deed", p, x, y, new int[] {0, 0, 1});
            CHECKS.due("the back's", p.draw(x, y, 1, 1, ONE, ONE, ONE, ONE), 1);
            CHECKS.place("the back's deed", p, x, y, new int[] {0, 0, 8});
            CHECKS.due("both hold", p.draw(x, y, 1, 0, ONE, ONE, ONE, ONE), 3);
            CHECKS.place("blending, constant, mask", p, x, y, new int[] {0x40300010, 1, 9});
            p.clear(4, 0, 0, 255);
            CHECKS.due("the write mask", p.at(x, y, 2), 127);
        }
        p.logic(15);
        p.frame(0, 0, 1, 1);
        p.draw(0, 0, 1, 0, 0, 0, 0, 0);
        CHECKS.due("logic", p.at(0, 0, 0), 0xFFFF00FF);
        int[] want = {0, 4, 3, 4};
        for (int answer = 0; answer < 4; answer++) {
            CHECKS.due("since the beginning: drawn(" + answer + ")", p.drawn(answer), want[answer]);
        }
    }

    private static void scissorsStay() {
        CHECKS.sentence("rules and scissors stay");
        PlaceTests p = new PlaceTests();
        p.scissors(4, 6, 7, 8);
        p.frame(0, 0, 64, 64);
        CHECKS.due("clear", p.clear(0, 0, 0, 0), 6);
        p.frame(5, 7, 64, 64);
        CHECKS.due("clear", p.clear(0, 0, 0, 0), 2);
        p.frame(7, 0, 64, 64);
        CHECKS.due("clear", p.clear(0, 0, 0, 0), 0);
        p.frame(6, 7, 1, 1);
        CHECKS.due("clear", p.clear(0, 0, 0, 0), 1);
    }

    private static void colourNumbers() {
        CHECKS.sentence("as a number a * 2^24 + b * 2^16 + g * 2^8 + r, which may be below 0");
        int[][] channels = {
            // r, g, b, a, the number
            {0, 0, 0, 0, 0}, {1, 0, 0, 0, 1}, {255, 0, 0, 0, 255}, {0, 1, 0, 0, 256},
            {0, 255, 0, 0, 65280}, {0, 0, 1, 0, 65536}, {0, 0, 255, 0, 16711680},
            {0, 0, 0, 1, 16777216}, {0, 0, 0, 127, 2130706432}, {255, 255, 255, 127, MAX},
            {0, 0, 0, 128, MIN}, {1, 0, 0, 128, MIN + 1}, {0, 0, 0, 255, -16777216},
            {255, 255, 255, 255, -1}, {254, 255, 255, 255, -2},
        };
        for (int[] c : channels) {
            PlaceTests p = new PlaceTests();
            p.draw(0, 0, 0, 0, Checks.fixed(c[0]), Checks.fixed(c[1]), Checks.fixed(c[2]),
                    Checks.fixed(c[3]));
            CHECKS.due("drawn", p.at(0, 0, 0), c[4]);
            CHECKS.due("its sum", p.sum(0), c[4]);
            p.clear(1, ~c[4], 0, 0);
            CHECKS.due("cleared", p.at(0, 0, 0), ~c[4]);
        }
    }

    private static void depthsHeld() {
        CHECKS.sentence("a DEPTH 0 .. 2^24 - 1");
        PlaceTests p = new PlaceTests();
        p.depth(7, true);
        for (int depth : new int[] {0, 1, 65535, 65536, FAR - 1, FAR}) {
            p.clear(2, 0, depth, 0);
            CHECKS.place("cleared", p, 0, 0, new int[] {0, depth, 0});
            p.draw(0, 0, FAR - depth, 0, 0, 0, 0, 0);
            CHECKS.place("drawn", p, 0, 0, new int[] {0, FAR - depth, 0});
        }
    }

    private static void stencilsHeld() {
        CHECKS.sentence("a STENCIL, a byte");
        PlaceTests p = new PlaceTests();
        for (int stencil : new int[] {0, 1, 127, 128, 254, 255}) {
            p.clear(4, 0, 0, stencil);
            CHECKS.place("cleared", p, 0, 0, new int[] {0, 0, stencil});
            p.stencil(1, 7, 255 - stencil, 255, 255, 0, 0, 2);
            p.draw(0, 0, 0, 1, 0, 0, 0, 0);
            CHECKS.place("drawn", p, 0, 0, new int[] {0, 0, 255 - stencil});
        }
    }

    private static void placesNotInTheFrame() {
        CHECKS.sentence("IndexOutOfBoundsException if it is not in the frame");
        int[][] frames = {{0, 0, 1, 1}, {1, 2, 2, 3}, {1023, 1023, 64, 64}, {0, 1023, 64, 1}};
        for (int[] f : frames) {
            PlaceTests p = new PlaceTests();
            p.frame(f[0], f[1], f[2], f[3]);
            p.clear(7, 5, 6, 7);
            for (int x : new int[] {MIN, f[0] - 1, f[0] + f[2], MAX}) {
                CHECKS.outside("outside", p, x, f[1]);
                for (int y : new int[] {MIN, f[1] - 1, f[1] + f[3], MAX}) {
                    CHECKS.outside("outside", p, x, y);
                    CHECKS.outside("outside", p, f[0], y);
                }
            }
            CHECKS.place("the first", p, f[0], f[1], new int[] {5, 6, 7});
            CHECKS.place("the last", p, f[0] + f[2] - 1, f[1] + f[3] - 1, new int[] {5, 6, 7});
        }
        CHECKS.sentence("The colour (what = 0), depth (1), stencil (2) of a place");
        PlaceTests p = new PlaceTests();
        p.clear(7, 5, 6, 7);
        p.scissors(0, 0, 0, 0);
        CHECKS.place("one that is not open", p, 0, 0, new int[] {5, 6, 7});
    }

    private static void whatOfAt() {
        CHECKS.sentence("IllegalArgumentException for another what");
        PlaceTests p = new PlaceTests();
        p.clear(7, 5, 6, 7);
        for (int what : new int[] {MIN, -1, 3, MAX}) {
            CHECKS.dueIllegal("at(0, 0, " + what + ")", () -> p.at(0, 0, what));
            CHECKS.place("afterwards", p, 0, 0, new int[] {5, 6, 7});
        }
    }

    private static void whatOfAtGoesFirst() {
        CHECKS.sentence("IllegalArgumentException for another what (this first)");
        PlaceTests p = new PlaceTests();
        for (int what : new int[] {MIN, -1, 3, MAX}) {
            for (int beside : new int[] {MIN, -1, 1, MAX}) {
                CHECKS.dueIllegal("at(" + beside + ", 0, " + what + ")",
                        () -> p.at(beside, 0, what));
                CHECKS.dueIllegal("at(0, " + beside + ", " + what + ")",
                        () -> p.at(0, beside, what));
                CHECKS.dueIllegal("at(" + beside + ", " + beside + ", " + what + ")",
                        () -> p.at(beside, beside, what));
            }
        }
    }

    /** Each place with numbers of its own, told row by row. */
    private static PlaceTests numbered(int[] f, int[][] rows) {
        PlaceTests p = new PlaceTests();
        p.frame(f[0], f[1], f[2], f[3]);
        for (int i = 0; i < rows.length; i++) {
            int x = f[0] + i % f[2];
            int y = f[1] + i / f[2];
            p.scissors(x, y, x + 1, y + 1);
            CHECKS.due("one place", p.clear(7, rows[i][0], rows[i][1], rows[i][2]), 1);
        }
        return p;
    }

    private static void sumGoesRowByRow() {
        CHECKS.sentence("Of all places, row by row .. 31 times what there was and the colour, .."
                + " depth or stencil");
        int[][] rows = {{1, 2, 3}, {10, 20, 30}, {100, 200, 40}, {1000, 2000, 50}, {5, 6, 7},
            {8, 9, 11}};
        PlaceTests wide = numbered(new int[] {7, 8, 3, 2}, rows);
        PlaceTests high = numbered(new int[] {7, 8, 2, 3}, rows);
        PlaceTests row = numbered(new int[] {0, 1023, 6, 1}, rows);
        PlaceTests column = numbered(new int[] {1023, 0, 1, 6}, rows);
        for (int what = 0; what < 3; what++) {
            BigInteger want = BigInteger.ZERO;
            for (int[] place : rows) {
                want = want.multiply(BigInteger.valueOf(31)).add(BigInteger.valueOf(place[what]));
            }
            CHECKS.due("3 * 2: sum(" + what + ")", wide.sum(what), want.intValue());
            CHECKS.due("2 * 3: sum(" + what + ")", high.sum(what), want.intValue());
            CHECKS.due("6 * 1: sum(" + what + ")", row.sum(what), want.intValue());
            CHECKS.due("1 * 6: sum(" + what + ")", column.sum(what), want.intValue());
        }
        PlaceTests two = numbered(new int[] {0, 0, 2, 1}, new int[][] {{1, 2, 3}, {4, 5, 6}});
        CHECKS.due("two places: sum(0)", two.sum(0), 35);
        CHECKS.due("two places: sum(1)", two.sum(1), 67);
        CHECKS.due("two places: sum(2)", two.sum(2), 99);
    }

    private static void sumBeginsWithZero() {
        CHECKS.sentence("Of all places, .. beginning with 0");
        PlaceTests p = new PlaceTests();
        for (int colour : new int[] {MIN, -1, 0, 1, MAX}) {
            p.clear(7, colour, 0, 0);
            CHECKS.due("one place: sum(0)", p.sum(0), colour);
        }
        p.clear(7, 0, FAR, 255);
        CHECKS.due("one place: sum(1)", p.sum(1), FAR);
        CHECKS.due("one place: sum(2)", p.sum(2), 255);
        p.frame(0, 0, 64, 64);
        for (int what = 0; what < 3; what++) {
            CHECKS.due("all 0: sum(" + what + ")", p.sum(what), 0);
            CHECKS.due("all 0, again: sum(" + what + ")", p.sum(what), 0);
        }
    }

    private static void sumWraps() {
        CHECKS.sentence("Of all places, .. 31 times what there was and .. , wrapping");
        int[][] twos = {
            // 31 times the first and the second, less a multiple of 2^32.
            {MAX, MAX, -32}, {MIN, MIN, 0}, {MIN, MAX, -1}, {-1, -1, -32}, {MAX, 0, 2147483617},
            {69273666, 1, MAX}, {69273666, 2, MIN}, {-69273667, 29, MIN}, {-69273667, 28, MAX},
        };
        for (int[] two : twos) {
            PlaceTests p = numbered(new int[] {0, 0, 2, 1},
                    new int[][] {{two[0], 0, 0}, {two[1], 0, 0}});
            CHECKS.due("of " + two[0] + " and " + two[1] + ": sum(0)", p.sum(0), two[2]);
        }
        PlaceTests full = new PlaceTests();
        full.frame(1023, 1023, 64, 64);
        full.clear(7, -2, FAR, 255);
        int[] held = {-2, FAR, 255};
        for (int what = 0; what < 3; what++) {
            BigInteger want = BigInteger.ZERO;
            for (int i = 0; i < 4096; i++) {
                want = want.multiply(BigInteger.valueOf(31)).add(BigInteger.valueOf(held[what]));
            }
            CHECKS.due("64 * 64: sum(" + what + ")", full.sum(what), want.intValue());
        }
    }

    private static void whatOfSum() {
        CHECKS.sentence("sum: IllegalArgumentException for another what");
        PlaceTests p = new PlaceTests();
        p.clear(7, 5, 6, 7);
        for (int what : new int[] {MIN, -1, 3, MAX}) {
            CHECKS.dueIllegal("sum(" + what + ")", () -> p.sum(what));
            CHECKS.due("afterwards: sum(0)", p.sum(0), 5);
            CHECKS.due("afterwards: sum(1)", p.sum(1), 6);
            CHECKS.due("afterwards: sum(2)", p.sum(2), 7);
        }
    }
}
