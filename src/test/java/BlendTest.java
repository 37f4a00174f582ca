/** Promises 6 (blend) and 7 (constant). */
public final class BlendTest {
    private static final int MIN = Integer.MIN_VALUE;
    private static final int MAX = Integer.MAX_VALUE;
    private static final Checks CHECKS = new Checks();
    private static final int[] SOME = {0, 1, 2, 63, 127, 128, 200, 254, 255};

    public static void main(String[] args) {
        factors();
        roundings();
        separateEquations();
        constantAtTheBeginning();
        off();
        wrongBlends();
        CHECKS.end();
    }

    private static int factorOf(int number, int[] s, int[] d, int[] c, int channel) {
        int[] factors = {
            0, 255, s[channel], 255 - s[channel], d[channel], 255 - d[channel], s[3], 255 - s[3],
            d[3], 255 - d[3], c[channel], 255 - c[channel], c[3], 255 - c[3],
            channel == 3 ? 255 : s[3] < 255 - d[3] ? s[3] : 255 - d[3],
        };
        return factors[number];
    }

    /** The nearest by doubles, another way than the program's. */
    private static int nearest(int number) {
        long rounded = Math.round(number / 255.0);
        return (int) (rounded < 0 ? 0 : rounded > 255 ? 255 : rounded);
    }

    private static int blended(int equation, int s, int d, int weightedS, int weightedD) {
        int[] results = {
            nearest(weightedS + weightedD), nearest(weightedS - weightedD),
            nearest(weightedD - weightedS), s < d ? s : d, s < d ? d : s,
        };
        return results[equation];
    }

    private static int colour(int[] c) {
        return Checks.colour(c[0], c[1], c[2], c[3]);
    }

    private static int due(int[] rule, int[] s, int[] d, int[] c) {
        int[] result = new int[4];
        for (int i = 0; i < 4; i++) {
            int forA = i == 3 ? 2 : 0;
            int weightedS = s[i] * factorOf(rule[forA], s, d, c, i);
            int weightedD = d[i] * factorOf(rule[forA + 1], s, d, c, i);
            result[i] = blended(rule[i == 3 ? 5 : 4], s[i], d[i], weightedS, weightedD);
        }
        return colour(result);
    }

    private static void oneBlend(PlaceTests p, int[] rule, int[] s, int[] d, int[] c) {
        p.clear(1, colour(d), 0, 0);
        p.constant(colour(c));
        p.blend(rule[0], rule[1], rule[2], rule[3], rule[4], rule[5]);
        CHECKS.due("draw", Checks.drawBytes(p, 0, 0, colour(s)), 3);
        CHECKS.due("blend(" + rule[0] + ", " + rule[1] + ", " + rule[2] + ", " + rule[3] + ", "
                + rule[4] + ", " + rule[5] + ") of " + colour(s) + " on " + colour(d) + " with "
                + colour(c), p.at(0, 0, 0), due(rule, s, d, c));
    }

    private static void factors() {
        int[][] colours = {
            {10, 77, 201, 140}, {250, 130, 3, 33}, {91, 160, 44, 222}, {255, 255, 255, 255},
            {0, 0, 0, 0}, {1, 254, 128, 127},
        };
        for (int first = 0; first < 15; first++) {
            for (int second = 0; second < 15; second++) {
                for (int equation = 0; equation < 5; equation++) {
                    PlaceTests p = new PlaceTests();
                    for (int k = 0; k < colours.length; k++) {
                        int[] s = colours[k];
                        int[] d = colours[(k + 1 + first % 5) % colours.length];
                        int[] c = colours[(k + 2 + second % 3) % colours.length];
                        int[] rule = {
                            first, second, (second + 4) % 15, (first + 7) % 15, equation,
                            (equation + 2) % 5,
                        };
                        oneBlend(p, rule, s, d, c);
                    }
                }
            }
        }
    }

    private static void roundings() {
        int[] none = {0, 0, 0, 0};
        for (int s = 0; s < 256; s++) {
            PlaceTests p = new PlaceTests();
            for (int d : SOME) {
                int[] drawn = {s, 255 - s, s / 2, d};
                int[] held = {d, d, s, s};
                oneBlend(p, new int[] {6, 7, 2, 5, 0, 0}, drawn, held, none);
                oneBlend(p, new int[] {8, 1, 1, 1, 1, 2}, drawn, held, none);
                oneBlend(p, new int[] {3, 4, 4, 3, 2, 1}, drawn, held, none);
            }
        }
    }

    private static void separateEquations() {
        PlaceTests p = new PlaceTests();
        p.clear(1, Checks.colour(100, 50, 200, 90), 0, 0);
        p.blend(0, 0, 1, 1, 4, 1);
        Checks.drawBytes(p, 0, 0, Checks.colour(60, 70, 80, 100));
        CHECKS.due("greater ones, difference", p.at(0, 0, 0), Checks.colour(100, 70, 200, 10));
        p.blend(0, 0, 1, 1, 3, 0);
        Checks.drawBytes(p, 0, 0, Checks.colour(60, 90, 80, 250));
        CHECKS.due("lesser ones, sum", p.at(0, 0, 0), Checks.colour(60, 70, 80, 255));
    }

    private static void constantAtTheBeginning() {
        PlaceTests p = new PlaceTests();
        p.blend(10, 0, 13, 0, 0, 0);
        Checks.drawBytes(p, 0, 0, Checks.colour(60, 70, 80, 100));
        CHECKS.due("the constant is 0", p.at(0, 0, 0), Checks.colour(0, 0, 0, 100));
        p.constant(MIN);
        Checks.drawBytes(p, 0, 0, Checks.colour(60, 70, 80, 255));
        CHECKS.due("its channel a is 128", p.at(0, 0, 0), Checks.colour(0, 0, 0, 127));
    }

    private static void off() {
        PlaceTests p = new PlaceTests();
        p.blend(0, 0, 0, 0, 0, 0);
        Checks.drawBytes(p, 0, 0, -1);
        CHECKS.due("blended to 0", p.at(0, 0, 0), 0);
        p.blend(MIN, MAX, 15, -1, -1, 99);
        Checks.drawBytes(p, 0, 0, 0x12345678);
        CHECKS.due("no blending", p.at(0, 0, 0), 0x12345678);
    }

    private static void wrongBlends() {
        PlaceTests p = new PlaceTests();
        for (int which = 0; which < 6; which++) {
            int[] wrong = {which == 4 ? -2 : -1, which < 4 ? 15 : 5, MIN, MAX};
            for (int number : wrong) {
                int[] b = {0, 0, 0, 0, 0, 0};
                b[which] = number;
                String call = "blend's argument " + which + " of " + number;
                p.blend(0, 1, 0, 1, 0, 0);
                CHECKS.dueIllegal(call, () -> p.blend(b[0], b[1], b[2], b[3], b[4], b[5]));
                p.clear(1, 0x12345678, 0, 0);
                Checks.drawBytes(p, 0, 0, -1);
                CHECKS.due("after " + call, p.at(0, 0, 0), 0x12345678);
                p.blend(0, 0, 0, 0, -1, 0);
                CHECKS.dueIllegal(call, () -> p.blend(b[0], b[1], b[2], b[3], b[4], b[5]));
                Checks.drawBytes(p, 0, 0, -1);
                CHECKS.due("off after " + call, p.at(0, 0, 0), -1);
            }
        }
    }
}
