/** Promise 3: which places are open, for drawing and for clearing. */
public final class ScissorsTest {
    private static final int MIN = Integer.MIN_VALUE;
    private static final int MAX = Integer.MAX_VALUE;
    private static final Checks CHECKS = new Checks();

    public static void main(String[] args) {
        opens(11, 21, 13, 23, 11, 21, 13, 23);
        opens(10, 20, 14, 24, 10, 20, 14, 24);
        opens(13, 23, 14, 24, 13, 23, 14, 24);
        opens(MIN, MIN, MAX, MAX, 10, 20, 14, 24);
        opens(MIN, MIN, 12, 22, 10, 20, 12, 22);
        opens(12, 22, MAX, MAX, 12, 22, 14, 24);
        // None: one side is empty, but x1 is not below x0.
        opens(12, 20, 12, 24, 0, 0, 0, 0);
        opens(10, 22, 14, 22, 0, 0, 0, 0);
        opens(10, 24, 14, 20, 0, 0, 0, 0);
        opens(10, 23, 14, 22, 0, 0, 0, 0);
        opens(0, 0, 0, 0, 0, 0, 0, 0);
        opens(14, 20, 20, 24, 0, 0, 0, 0);
        opens(0, 20, 10, 24, 0, 0, 0, 0);
        opens(10, 0, 14, 20, 0, 0, 0, 0);
        // All: x1 is below x0, whatever the others are.
        opens(12, 22, 11, 23, 10, 20, 14, 24);
        opens(0, 0, -1, 0, 10, 20, 14, 24);
        opens(MAX, 5, MIN, 5, 10, 20, 14, 24);
        opens(100, 9, 99, 3, 10, 20, 14, 24);
        CHECKS.end();
    }

    private static void opens(int x0, int y0, int x1, int y1, int fromX, int fromY, int toX,
            int toY) {
        String call = "scissors(" + x0 + ", " + y0 + ", " + x1 + ", " + y1 + ")";
        PlaceTests p = new PlaceTests();
        p.scissors(11, 21, 12, 22);
        p.frame(10, 20, 4, 4);
        p.scissors(x0, y0, x1, y1);
        int open = 0;
        for (int y = 19; y < 25; y++) {
            for (int x = 9; x < 15; x++) {
                boolean isOpen = x >= fromX && x < toX && y >= fromY && y < toY;
                open += isOpen ? 1 : 0;
                CHECKS.due(call + ": draw(" + x + ", " + y + ", ..)",
                        Checks.drawBytes(p, x, y, 7), isOpen ? 3 : 0);
            }
        }
        CHECKS.due(call + ": clear", p.clear(4, 0, 0, 9), open);
        for (int y = 20; y < 24; y++) {
            for (int x = 10; x < 14; x++) {
                boolean isOpen = x >= fromX && x < toX && y >= fromY && y < toY;
                CHECKS.place(call, p, x, y, isOpen ? new int[] {7, 0, 9} : new int[] {0, 0, 0});
            }
        }
        CHECKS.due(call + ": drawn(0)", p.drawn(0), 36 - open);
        CHECKS.due(call + ": drawn(3)", p.drawn(3), open);
    }
}
