import java.util.Arrays;

/** All promises together: long runs of calls, right and wrong, against the model. */
public final class ModelTest {
    private static final int RUNS = 800;
    /** A step makes two calls at most, and an object is good for 512. */
    private static final int STEPS = 250;
    private static final int[] ODD = {
        Integer.MIN_VALUE, -65536, -2, -1, 0, 1, 2, 8, 15, 16, 64, 65, 255, 256, 1023, 1024, 65536,
        65537, 16777215, 16777216, Integer.MAX_VALUE,
    };
    private static final Checks CHECKS = new Checks();

    /** The arguments are drawn by a fixed rule: each run of the test makes the same calls. */
    private static long seed;

    private final PlaceTests program = new PlaceTests();
    private final Model model = new Model();
    private final int run;

    private ModelTest(int run) {
        this.run = run;
        seed = run * 7919L + 1;
    }

    public static void main(String[] args) {
        for (int run = 0; run < RUNS; run++) {
            ModelTest test = new ModelTest(run);
            for (int i = 0; i < STEPS; i++) {
                test.step();
            }
        }
        CHECKS.end();
    }

    private static int next(int below) {
        seed = seed * 6364136223846793005L + 1442695040888963407L;
        return (int) ((seed >>> 33) % below);
    }

    private static int from(int least, int most) {
        return next(40) == 0 ? ODD[next(ODD.length)] : least + next(most - least + 1);
    }

    private static int colour() {
        return next(65536) << 16 | next(65536);
    }

    private static int fixed() {
        return next(4) == 0 ? next(2) * 65536 : from(-5000, 70000);
    }

    private void step() {
        int kind = next(24);
        if (kind < 9) {
            draw();
        } else if (kind < 12) {
            rules(kind);
        } else if (kind < 16) {
            colours(kind);
        } else if (kind == 16) {
            frame();
        } else if (kind == 17) {
            clear();
        } else {
            questions(kind);
        }
    }

    private void draw() {
        int[] a = {
            from(0, 3), from(0, 3), next(4) == 0 ? from(0, 16777215) : from(0, 5), from(0, 1),
            fixed(), fixed(), fixed(), fixed(),
        };
        same("draw", a, model.draw(a[0], a[1], a[2], a[3], a[4], a[5], a[6], a[7]),
                () -> program.draw(a[0], a[1], a[2], a[3], a[4], a[5], a[6], a[7]));
        int[] at = {a[0], a[1], next(3)};
        same("at", at, model.at(at[0], at[1], at[2]), () -> program.at(at[0], at[1], at[2]));
    }

    private void rules(int kind) {
        if (kind == 9) {
            int[] a = {from(-1, 7), next(2)};
            same("depth", a, model.depth(a[0], a[1] == 1), () -> {
                program.depth(a[0], a[1] == 1);
                return 0;
            });
        } else if (kind == 10) {
            int[] a = {
                from(0, 1), from(-1, 7), from(0, 255), from(0, 255), from(0, 255), from(0, 7),
                from(0, 7), from(0, 7),
            };
            same("stencil", a, model.stencil(a[0], a[1], a[2], a[3], a[4], a[5], a[6], a[7]),
                    () -> {
                        program.stencil(a[0], a[1], a[2], a[3], a[4], a[5], a[6], a[7]);
                        return 0;
                    });
        } else {
            int[] a = {from(0, 3), from(0, 3), from(0, 5), from(0, 5)};
            same("scissors", a, model.scissors(a[0], a[1], a[2], a[3]), () -> {
                program.scissors(a[0], a[1], a[2], a[3]);
                return 0;
            });
        }
    }

    private void colours(int kind) {
        if (kind == 12) {
            int[] a = {
                from(0, 14), from(0, 14), from(0, 14), from(0, 14), from(-1, 4), from(0, 4),
            };
            same("blend", a, model.blend(a), () -> {
                program.blend(a[0], a[1], a[2], a[3], a[4], a[5]);
                return 0;
            });
        } else if (kind == 13) {
            int[] a = {colour()};
            same("constant", a, model.constant(a[0]), () -> {
                program.constant(a[0]);
                return 0;
            });
        } else if (kind == 14) {
            int[] a = {next(2) == 0 ? -1 : from(-1, 15)};
            same("logic", a, model.logic(a[0]), () -> {
                program.logic(a[0]);
                return 0;
            });
        } else {
            int[] a = {next(2) == 0 ? 15 : from(0, 15)};
            same("mask", a, model.mask(a[0]), () -> {
                program.mask(a[0]);
                return 0;
            });
        }
    }

    private void frame() {
        boolean large = next(20) == 0;
        int[] a = {from(0, 2), from(0, 2), from(1, large ? 64 : 4), from(1, large ? 64 : 4)};
        same("frame", a, model.frame(a[0], a[1], a[2], a[3]), () -> {
            program.frame(a[0], a[1], a[2], a[3]);
            return 0;
        });
    }

    private void clear() {
        int[] a = {from(0, 7), colour(), from(0, 16777215), from(0, 255)};
        same("clear", a, model.clear(a[0], a[1], a[2], a[3]),
                () -> program.clear(a[0], a[1], a[2], a[3]));
    }

    private void questions(int kind) {
        if (kind < 20) {
            int[] a = {from(0, 3)};
            same("drawn", a, model.drawn(a[0]), () -> program.drawn(a[0]));
        } else {
            int[] a = {from(0, 2)};
            same("sum", a, model.sum(a[0]), () -> program.sum(a[0]));
        }
    }

    /** A call with an answer, or 0 where it has none. */
    private interface Asked {
        int answer();
    }

    private void same(String name, int[] arguments, Integer want, Asked asked) {
        String call = "run " + run + ": " + name + Arrays.toString(arguments);
        if (want != null) {
            try {
                CHECKS.due(call, asked.answer(), want);
            } catch (RuntimeException e) {
                CHECKS.due(call + " threw " + e, 1, 0);
            }
        } else if (name.equals("at") && arguments[2] >= 0 && arguments[2] <= 2) {
            CHECKS.dueThrow(call, IndexOutOfBoundsException.class, asked::answer);
        } else {
            CHECKS.dueIllegal(call, asked::answer);
        }
    }
}
