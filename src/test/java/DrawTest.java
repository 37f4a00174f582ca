/** Promises 10 (clear), 11 (draw) and 13 (drawn). */
public final class DrawTest {
    private static final int MIN = Integer.MIN_VALUE;
    private static final int MAX = Integer.MAX_VALUE;
    private static final int FAR = (1 << 24) - 1;
    private static final Checks CHECKS = new Checks();

    public static void main(String[] args) {
        clearsWhatIsAskedFor();
        clearsByTheRules();
        clearsNoneOrSome();
        wrongClears();
        answers();
        drawsOnePlace();
        wrongDraws();
        wrongDrawns();
        CHECKS.end();
    }

    private static void clearsWhatIsAskedFor() {
        for (int what = 0; what < 8; what++) {
            PlaceTests p = new PlaceTests();
            p.frame(3, 4, 2, 3);
            CHECKS.due("clear(" + what + ", ..)", p.clear(what, MIN, FAR, 255), 6);
            int[] want = {
                (what & 1) != 0 ? MIN : 0, (what & 2) != 0 ? FAR : 0, (what & 4) != 0 ? 255 : 0,
            };
            for (int y = 4; y < 7; y++) {
                for (int x = 3; x < 5; x++) {
                    CHECKS.place("clear(" + what + ", ..)", p, x, y, want);
                }
            }
        }
    }

    private static void clearsByTheRules() {
        PlaceTests p = new PlaceTests();
        p.depth(0, false);
        p.stencil(0, 0, 1, 0, 0xF0, 1, 1, 1);
        p.stencil(1, 7, 1, 255, 0x0F, 1, 1, 1);
        CHECKS.due("clear", p.clear(7, 5, 6, 0x77), 1);
        CHECKS.place("depth not written, stencil masked", p, 0, 0, new int[] {5, 0, 0x70});
        p.depth(0, true);
        p.clear(7, 6, 7, 0x88);
        CHECKS.place("depth written", p, 0, 0, new int[] {6, 7, 0x80});
        p.depth(7, false);
        p.clear(2, 0, 8, 0);
        CHECKS.place("depth not written", p, 0, 0, new int[] {6, 7, 0x80});
        p.depth(-1, false);
        p.stencil(0, 7, 1, 255, 0, 0, 0, 0);
        p.clear(6, 0, 8, 0xFF);
        CHECKS.place("depth off, stencil wholly masked", p, 0, 0, new int[] {6, 8, 0x80});
        p.stencil(0, -1, 1, 255, 0, 0, 0, 0);
        p.clear(4, 0, 8, 0x3D);
        CHECKS.place("front off, back on", p, 0, 0, new int[] {6, 8, 0x3D});
        p.logic(0);
        p.blend(0, 0, 0, 0, 0, 0);
        p.clear(1, 0x12345678, 0, 0);
        CHECKS.place("neither blending nor logic", p, 0, 0, new int[] {0x12345678, 8, 0x3D});
        for (int answer = 0; answer < 4; answer++) {
            CHECKS.due("a clearing draws nothing", p.drawn(answer), 0);
        }
    }

    private static void clearsNoneOrSome() {
        PlaceTests p = new PlaceTests();
        p.frame(0, 0, 8, 8);
        p.scissors(2, 3, 5, 100);
        CHECKS.due("some", p.clear(0, 1, 1, 1), 15);
        CHECKS.due("some", p.clear(7, 1, 1, 1), 15);
        p.scissors(2, 3, 2, 100);
        CHECKS.due("none", p.clear(7, 2, 2, 2), 0);
        p.scissors(2, 3, 1, 100);
        CHECKS.due("all", p.clear(0, 2, 2, 2), 64);
        CHECKS.place("an open one", p, 4, 7, new int[] {1, 1, 1});
        CHECKS.place("one that was not", p, 5, 7, new int[] {0, 0, 0});
    }

    private static void wrongClears() {
        PlaceTests p = new PlaceTests();
        p.clear(7, 5, 6, 7);
        int[][] wrong = {
            {-1, 0, 0}, {8, 0, 0}, {MIN, 0, 0}, {MAX, 0, 0}, {7, -1, 0}, {7, 1 << 24, 0},
            {7, MIN, 0}, {7, MAX, 0}, {7, 0, -1}, {7, 0, 256}, {7, 0, MIN}, {7, 0, MAX},
            {0, -1, 0}, {0, 0, 256}, {5, 1 << 24, 0}, {3, 0, -1},
        };
        for (int[] w : wrong) {
            String call = "clear(" + w[0] + ", 1, " + w[1] + ", " + w[2] + ")";
            CHECKS.dueIllegal(call, () -> p.clear(w[0], 1, w[1], w[2]));
            CHECKS.place("after " + call, p, 0, 0, new int[] {5, 6, 7});
            p.scissors(0, 0, 0, 0);
            CHECKS.dueIllegal(call + " where none is open", () -> p.clear(w[0], 1, w[1], w[2]));
            p.scissors(0, 0, -1, 0);
        }
    }

    private static void answers() {
        PlaceTests p = new PlaceTests();
        p.frame(0, 0, 3, 1);
        p.scissors(0, 0, 2, 1);
        p.clear(6, 0, 100, 1);
        p.stencil(0, 2, 1, 255, 255, 2, 3, 3);
        p.depth(1, true);
        int[] want = {0, 0, 0, 0};
        int[][] draws = {
            // x, y, depth, answer
            {2, 0, 50, 0}, {0, 1, 50, 0}, {-1, 0, 50, 0}, {MIN, MAX, 50, 0}, {0, 0, 100, 2},
            {0, 0, 50, 1}, {0, 0, 50, 3}, {0, 0, 49, 1}, {1, 0, 99, 3}, {0, 0, 50, 2},
            {0, 0, 49, 1}, {0, 0, 49, 3},
        };
        for (int[] d : draws) {
            String call = "draw(" + d[0] + ", " + d[1] + ", " + d[2] + ", ..)";
            CHECKS.due(call, p.draw(d[0], d[1], d[2], 0, 0, 0, 0, 0), d[3]);
            want[d[3]]++;
            for (int answer = 0; answer < 4; answer++) {
                CHECKS.due("drawn(" + answer + ")", p.drawn(answer), want[answer]);
            }
        }
    }

    private static void drawsOnePlace() {
        PlaceTests p = new PlaceTests();
        p.frame(7, 9, 4, 3);
        p.depth(7, true);
        p.stencil(1, 7, 9, 255, 255, 0, 0, 2);
        CHECKS.due("draw", p.draw(9, 10, FAR, 1, 65536, 0, 0, 65536), 3);
        for (int y = 9; y < 12; y++) {
            for (int x = 7; x < 11; x++) {
                boolean isIt = x == 9 && y == 10;
                CHECKS.place("the one place", p, x, y,
                        isIt ? new int[] {0xFF0000FF, FAR, 9} : new int[] {0, 0, 0});
            }
        }
    }

    private static void wrongDraws() {
        PlaceTests p = new PlaceTests();
        p.depth(7, true);
        p.stencil(0, 7, 9, 255, 255, 2, 2, 2);
        p.stencil(1, 7, 9, 255, 255, 2, 2, 2);
        int[][] wrong = {
            {-1, 0}, {1 << 24, 0}, {MIN, 1}, {MAX, 1}, {0, -1}, {0, 2}, {0, MIN}, {0, MAX},
            {-1, 2},
        };
        for (int[] w : wrong) {
            for (int x = 0; x < 2; x++) {
                int at = x;
                CHECKS.dueIllegal("draw(" + x + ", 0, " + w[0] + ", " + w[1] + ", ..)",
                        () -> p.draw(at, 0, w[0], w[1], 65536, 65536, 65536, 65536));
                CHECKS.place("after a wrong draw", p, 0, 0, new int[] {0, 0, 0});
            }
        }
        for (int answer = 0; answer < 4; answer++) {
            CHECKS.due("after wrong draws: drawn(" + answer + ")", p.drawn(answer), 0);
        }
    }

    private static void wrongDrawns() {
        PlaceTests p = new PlaceTests();
        for (int answer : new int[] {-1, 4, MIN, MAX}) {
            CHECKS.dueIllegal("drawn(" + answer + ")", () -> p.drawn(answer));
        }
    }
}
