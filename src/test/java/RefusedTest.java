import java.util.ArrayList;
import java.util.Arrays;
import java.util.List;

/**
 * "A call that throws changes nothing": two objects with the same calls behind them, of which one
 * has a refused call more, answer the same ever after.
 */
public final class RefusedTest {
    private static final int MIN = Integer.MIN_VALUE;
    private static final int MAX = Integer.MAX_VALUE;
    private static final int FAR = (1 << 24) - 1;
    private static final int STARTS = 5;
    private static final Checks CHECKS = new Checks();

    /** A call of the face, by its name. */
    private static final class Refused {
        private final String name;
        private final int[] a;

        private Refused(String name, int... a) {
            this.name = name;
            this.a = a;
        }

        private boolean isOutside() {
            return name.equals("at") && a[2] >= 0 && a[2] <= 2;
        }

        private void on(PlaceTests p) {
            switch (name) {
                case "frame" -> p.frame(a[0], a[1], a[2], a[3]);
                case "depth" -> p.depth(a[0], a[1] == 1);
                case "stencil" -> p.stencil(a[0], a[1], a[2], a[3], a[4], a[5], a[6], a[7]);
                case "blend" -> p.blend(a[0], a[1], a[2], a[3], a[4], a[5]);
                case "logic" -> p.logic(a[0]);
                case "mask" -> p.mask(a[0]);
                case "clear" -> p.clear(a[0], a[1], a[2], a[3]);
                case "draw" -> p.draw(a[0], a[1], a[2], a[3], a[4], a[5], a[6], a[7]);
                case "at" -> p.at(a[0], a[1], a[2]);
                case "drawn" -> p.drawn(a[0]);
                default -> p.sum(a[0]);
            }
        }

        @Override
        public String toString() {
            return name + Arrays.toString(a);
        }
    }

    public static void main(String[] args) {
        CHECKS.sentence("A call that throws changes nothing.");
        for (Refused call : refusedCalls()) {
            for (int start = 0; start < STARTS; start++) {
                String when = call + " after start " + start;
                PlaceTests p = started(start);
                if (call.isOutside()) {
                    CHECKS.dueThrow(when, IndexOutOfBoundsException.class, () -> call.on(p));
                } else {
                    CHECKS.dueIllegal(when, () -> call.on(p));
                }
                int[] want = answers(started(start));
                int[] got = answers(p);
                for (int i = 0; i < want.length; i++) {
                    CHECKS.due(when + ": answer " + i, got[i], want[i]);
                }
            }
        }
        CHECKS.end();
    }

    /** Each argument wrong by itself, the others right as told, and then all of them wrong. */
    private static void wrong(List<Refused> calls, String name, int[] right, int[] least,
            int[] most) {
        for (int which = 0; which < right.length; which++) {
            if (least[which] == MIN) {
                continue;
            }
            for (int number : new int[] {MIN, least[which] - 1, most[which] + 1, MAX}) {
                int[] a = right.clone();
                a[which] = number;
                calls.add(new Refused(name, a));
            }
        }
        int[] all = right.clone();
        for (int which = 0; which < right.length; which++) {
            all[which] = least[which] == MIN ? right[which] : most[which] + 1;
        }
        calls.add(new Refused(name, all));
    }

    /** Where the least is MIN, every number is right. */
    private static List<Refused> refusedCalls() {
        List<Refused> calls = new ArrayList<>();
        int[] least = {0, 0, 1, 1};
        int[] most = {1023, 1023, 64, 64};
        wrong(calls, "frame", new int[] {1, 2, 3, 4}, least, most);
        wrong(calls, "frame", new int[] {5, 6, 64, 64}, least, most);
        for (int written = 0; written < 2; written++) {
            wrong(calls, "depth", new int[] {0, written}, new int[] {-1, MIN}, new int[] {7, 0});
        }
        wrongStencils(calls);
        wrongBlends(calls);
        wrong(calls, "logic", new int[] {0}, new int[] {-1}, new int[] {15});
        wrong(calls, "mask", new int[] {0}, new int[] {0}, new int[] {15});
        for (int what = 0; what < 8; what++) {
            wrong(calls, "clear", new int[] {what, 0x55AA55AA, 77, 78}, new int[] {0, MIN, 0, 0},
                    new int[] {7, 0, FAR, 255});
        }
        for (int side = 0; side < 2; side++) {
            for (int x : new int[] {0, 6, 9, MIN, MAX}) {
                wrong(calls, "draw", new int[] {x, x, 77, side, 65536, 30000, MAX, MIN},
                        new int[] {MIN, MIN, 0, 0, MIN, MIN, MIN, MIN},
                        new int[] {0, 0, FAR, 1, 0, 0, 0, 0});
            }
        }
        for (int x : new int[] {MIN, -1, 1100, MAX}) {
            for (int what : new int[] {0, 1, 2, -1, 3}) {
                calls.add(new Refused("at", x, 0, what));
                calls.add(new Refused("at", 0, x, what));
                calls.add(new Refused("at", x, x, what));
            }
        }
        for (int x : new int[] {0, 6}) {
            wrong(calls, "at", new int[] {x, x, 0}, new int[] {MIN, MIN, 0}, new int[] {0, 0, 2});
        }
        wrong(calls, "drawn", new int[] {0}, new int[] {0}, new int[] {3});
        wrong(calls, "sum", new int[] {0}, new int[] {0}, new int[] {2});
        return calls;
    }

    private static void wrongStencils(List<Refused> calls) {
        int[] most = {1, 7, 255, 255, 255, 7, 7, 7};
        for (int side = 0; side < 2; side++) {
            int[] least = {0, -1, 0, 0, 0, 0, 0, 0};
            wrong(calls, "stencil", new int[] {side, 0, 1, 2, 3, 4, 5, 6}, least, most);
            wrong(calls, "stencil", new int[] {side, 7, 200, 0, 128, 1, 1, 1}, least, most);
        }
        for (int side : new int[] {MIN, -1, 2, MAX}) {
            calls.add(new Refused("stencil", side, -1, 0, 0, 0, 0, 0, 0));
        }
    }

    private static void wrongBlends(List<Refused> calls) {
        int[] most = {14, 14, 14, 14, 4, 4};
        int[] least = {0, 0, 0, 0, -1, 0};
        wrong(calls, "blend", new int[] {0, 0, 0, 0, 0, 0}, least, most);
        wrong(calls, "blend", new int[] {1, 2, 3, 4, 3, 4}, least, most);
    }

    private static PlaceTests started(int start) {
        PlaceTests p = new PlaceTests();
        if (start == 0) {
            return p;
        }
        boolean large = start == 2;
        p.frame(5, 6, large ? 64 : 3, large ? 64 : 2);
        p.clear(7, 0x11335577, 100, 64);
        p.scissors(6, 0, 8, 7 + start);
        p.depth(1, start != 3);
        p.stencil(0, 5, 70, 0x7E, 0x3F, 3, 6, 5);
        p.stencil(1, 1, 60, 0x70, 0xFF, 7, 2, 4);
        p.constant(0x40608020);
        p.blend(6, 10, 9, 12, 0, 1);
        p.mask(start == 3 ? 11 : 15);
        p.logic(start == 2 ? 6 : -1);
        p.draw(6, 6, 50, 0, 40000, 50000, 60000, 30000);
        p.draw(7, 6, 150, 0, 40000, 50000, 60000, 30000);
        p.draw(7, 7, 50, 1, 10000, 20000, 30000, 40000);
        p.draw(5, 6, 50, 0, 0, 0, 0, 0);
        if (start == 4) {
            turnOff(p);
        }
        return p;
    }

    private static void turnOff(PlaceTests p) {
        p.depth(-1, false);
        p.stencil(0, -1, 0, 0, 0, 0, 0, 0);
        p.stencil(1, -1, 0, 0, 0, 0, 0, 0);
        p.blend(0, 0, 0, 0, -1, 0);
        p.scissors(0, 0, -1, 0);
    }

    private static final class Answers {
        private final int[] numbers = new int[512];
        private int count;

        private void add(int number) {
            numbers[count++] = number;
        }
    }

    /** All that can be seen of an object: its places, its counts, and what its rules do. */
    private static int[] answers(PlaceTests p) {
        Answers seen = new Answers();
        state(p, seen);
        for (int side = 0; side < 2; side++) {
            for (int depth : new int[] {20, 0, 100, FAR}) {
                for (int x = 5; x < 9; x++) {
                    seen.add(p.draw(x, 6, depth, side, 20000, 65536, 12345, 45000));
                    seen.add(p.draw(x, 7, depth, side, 0, 0, 65536, 65536));
                }
                seen.add(p.draw(0, 0, depth, side, 30000, 0, 65536, 1000));
            }
            state(p, seen);
        }
        seen.add(p.clear(7, 0x0F1E2D3C, 90, 170));
        state(p, seen);
        // Without logic the blending shows, and without that the mask.
        p.logic(-1);
        seen.add(p.draw(6, 6, 1, 1, 20000, 50000, 65536, 45000));
        seen.add(p.draw(0, 0, 1, 1, 20000, 50000, 65536, 45000));
        state(p, seen);
        p.blend(10, 11, 12, 13, 0, 0);
        seen.add(p.draw(6, 6, 0, 1, 65536, 65536, 65536, 65536));
        state(p, seen);
        p.blend(0, 0, 0, 0, -1, 0);
        turnOff(p);
        seen.add(p.draw(6, 6, 0, 0, 65536, 65536, 65536, 65536));
        seen.add(p.clear(7, 0x77665544, 91, 171));
        state(p, seen);
        return Arrays.copyOf(seen.numbers, seen.count);
    }

    private static void state(PlaceTests p, Answers seen) {
        for (int answer = 0; answer < 4; answer++) {
            seen.add(p.drawn(answer));
        }
        for (int what = 0; what < 3; what++) {
            seen.add(p.sum(what));
            for (int[] place : new int[][] {{0, 0}, {5, 6}, {7, 7}, {68, 69}}) {
                int got = 0;
                try {
                    got = p.at(place[0], place[1], what);
                } catch (IndexOutOfBoundsException e) {
                    got = 123456789;
                }
                seen.add(got);
            }
        }
    }
}
