/** Promises 1 (a new object), 2 (frame), 12 (at) and 14 (sum). */
public final class FrameTest {
    private static final int MIN = Integer.MIN_VALUE;
    private static final int MAX = Integer.MAX_VALUE;
    private static final Checks CHECKS = new Checks();

    public static void main(String[] args) {
        newObject();
        newFrameIsEmptyAndKeepsRules();
        frameEdges();
        wrongFrames();
        places();
        sums();
        CHECKS.end();
    }

    private static void newObject() {
        PlaceTests p = new PlaceTests();
        CHECKS.place("new", p, 0, 0, new int[] {0, 0, 0});
        outside("new", p, new int[][] {{1, 0}, {0, 1}, {-1, 0}, {0, -1}});
        for (int answer = 0; answer < 4; answer++) {
            CHECKS.due("new: drawn(" + answer + ")", p.drawn(answer), 0);
        }
        for (int what = 0; what < 3; what++) {
            CHECKS.due("new: sum(" + what + ")", p.sum(what), 0);
        }
        for (int side = 0; side < 2; side++) {
            CHECKS.due("new: draw", p.draw(0, 0, 7, side, 65536, 65536, 65536, 65536), 3);
            CHECKS.place("rules are off", p, 0, 0, new int[] {-1, 0, 0});
        }
        CHECKS.due("new: clear", p.clear(7, 0x12345678, 9, 200), 1);
        CHECKS.place("all is cleared", p, 0, 0, new int[] {0x12345678, 9, 200});
        CHECKS.due("of one place: sum(0)", p.sum(0), 0x12345678);
        CHECKS.due("of one place: sum(1)", p.sum(1), 9);
        CHECKS.due("of one place: sum(2)", p.sum(2), 200);
    }

    private static void newFrameIsEmptyAndKeepsRules() {
        PlaceTests p = new PlaceTests();
        p.frame(5, 6, 3, 2);
        p.scissors(6, 0, 8, 100);
        p.mask(7);
        p.depth(4, true);
        p.stencil(0, 7, 9, 255, 255, 0, 0, 2);
        p.stencil(1, 0, 8, 255, 255, 2, 0, 0);
        p.constant(0x00000A0B);
        p.blend(10, 0, 0, 0, 0, 0);
        CHECKS.due("clear", p.clear(7, -1, 1, 1), 4);
        CHECKS.due("draw", p.draw(6, 6, 2, 0, 65536, 65536, 65536, 65536), 3);
        int[][] frames = {{5, 6, 3, 2}, {6, 7, 2, 1}, {6, 0, 64, 64}, {0, 6, 7, 1}};
        for (int[] f : frames) {
            p.frame(f[0], f[1], f[2], f[3]);
            int y = f[1];
            for (int what = 0; what < 3; what++) {
                CHECKS.due("new frame: sum(" + what + ")", p.sum(what), 0);
            }
            CHECKS.place("new frame", p, f[0] + f[2] - 1, y + f[3] - 1, new int[] {0, 0, 0});
            CHECKS.place("new frame", p, 6, y, new int[] {0, 0, 0});
            CHECKS.due("scissors stay", p.draw(5, y, 2, 0, 65536, 0, 0, 0), 0);
            CHECKS.due("depth stays", p.draw(6, y, 0, 0, 65536, 0, 0, 0), 2);
            CHECKS.due("the back stays", p.draw(6, y, 2, 1, 65536, 0, 0, 0), 1);
            CHECKS.place("the back's deed", p, 6, y, new int[] {0, 0, 8});
            CHECKS.due("draw", p.draw(6, y, 2, 0, 65536, 65536, 65536, 65536), 3);
            CHECKS.place("blending and mask stay", p, 6, y, new int[] {0x0A0B, 2, 9});
        }
        CHECKS.due("drawn stays", p.drawn(3), 5);
        CHECKS.due("drawn stays", p.drawn(0), 4);
        p.logic(15);
        p.frame(6, 0, 1, 1);
        p.draw(6, 0, 1, 0, 0, 0, 0, 0);
        CHECKS.due("logic stays", p.at(6, 0, 0), 0x00FFFFFF);
    }

    private static void frameEdges() {
        PlaceTests p = new PlaceTests();
        p.frame(1023, 1023, 64, 64);
        CHECKS.due("clear", p.clear(1, 5, 0, 0), 4096);
        CHECKS.due("first", p.at(1023, 1023, 0), 5);
        CHECKS.due("last", p.at(1086, 1086, 0), 5);
        outside("64 * 64", p, new int[][] {{1022, 1023}, {1023, 1022}, {1087, 1086}, {1086, 1087}});
        p.frame(0, 0, 1, 64);
        CHECKS.due("clear", p.clear(1, 6, 0, 0), 64);
        CHECKS.due("last", p.at(0, 63, 0), 6);
        outside("1 * 64", p, new int[][] {{1, 0}, {0, 64}});
        p.frame(3, 0, 64, 1);
        CHECKS.due("clear", p.clear(1, 7, 0, 0), 64);
        CHECKS.due("last", p.at(66, 0, 0), 7);
        outside("64 * 1", p, new int[][] {{2, 0}, {67, 0}, {3, 1}});
    }

    private static void wrongFrames() {
        PlaceTests p = new PlaceTests();
        p.frame(2, 3, 2, 2);
        p.clear(7, 77, 78, 79);
        int[][] wrong = {
            {0, 0, 0, 1}, {0, 0, 1, 0}, {0, 0, 65, 1}, {0, 0, 1, 65}, {0, 0, -1, 1}, {0, 0, 1, -1},
            {-1, 0, 1, 1}, {0, -1, 1, 1}, {1024, 0, 1, 1}, {0, 1024, 1, 1}, {MIN, 0, 1, 1},
            {0, MAX, 1, 1}, {0, 0, MIN, MIN}, {0, 0, MAX, MAX}, {0, 0, 65536, 65536},
        };
        for (int[] w : wrong) {
            String call = "frame(" + w[0] + ", " + w[1] + ", " + w[2] + ", " + w[3] + ")";
            CHECKS.dueIllegal(call, () -> p.frame(w[0], w[1], w[2], w[3]));
            CHECKS.place("after " + call, p, 2, 3, new int[] {77, 78, 79});
            CHECKS.place("after " + call, p, 3, 4, new int[] {77, 78, 79});
        }
        outside("after wrong frames", p, new int[][] {{0, 0}, {4, 3}, {2, 5}});
    }

    private static void places() {
        PlaceTests p = new PlaceTests();
        p.frame(10, 20, 3, 2);
        p.scissors(11, 21, 12, 22);
        p.clear(7, MIN, (1 << 24) - 1, 255);
        CHECKS.place("the open one", p, 11, 21, new int[] {MIN, (1 << 24) - 1, 255});
        CHECKS.place("another one", p, 12, 20, new int[] {0, 0, 0});
        outside("3 * 2", p, new int[][] {
            {9, 20}, {13, 20}, {10, 19}, {10, 22}, {MIN, 20}, {MAX, 20}, {10, MIN}, {10, MAX},
            {MIN, MIN}, {MAX, MAX}, {0, 0},
        });
        for (int what : new int[] {-1, 3, MIN, MAX}) {
            CHECKS.dueIllegal("at(10, 20, " + what + ")", () -> p.at(10, 20, what));
            CHECKS.dueIllegal("at(0, 0, " + what + ")", () -> p.at(0, 0, what));
        }
    }

    private static void sums() {
        PlaceTests p = new PlaceTests();
        p.frame(4, 5, 3, 2);
        int[] want = {0, 0, 0};
        for (int y = 5; y < 7; y++) {
            for (int x = 4; x < 7; x++) {
                int n = x + 10 * y;
                p.scissors(x, y, x + 1, y + 1);
                p.clear(7, n * 0x01020304, n * 1000, n);
                want[0] = 31 * want[0] + n * 0x01020304;
                want[1] = 31 * want[1] + n * 1000;
                want[2] = 31 * want[2] + n;
            }
        }
        for (int what = 0; what < 3; what++) {
            CHECKS.due("sum(" + what + ")", p.sum(what), want[what]);
        }
        for (int what : new int[] {-1, 3, MIN, MAX}) {
            CHECKS.dueIllegal("sum(" + what + ")", () -> p.sum(what));
        }
        p.frame(4, 5, 2, 1);
        p.scissors(0, 0, -1, 0);
        p.clear(7, 3, 4, 5);
        CHECKS.due("of the smaller frame: sum(0)", p.sum(0), 31 * 3 + 3);
        CHECKS.due("of the smaller frame: sum(1)", p.sum(1), 31 * 4 + 4);
        CHECKS.due("of the smaller frame: sum(2)", p.sum(2), 31 * 5 + 5);
    }

    private static void outside(String when, PlaceTests p, int[][] places) {
        for (int[] place : places) {
            CHECKS.outside(when, p, place[0], place[1]);
        }
    }
}
