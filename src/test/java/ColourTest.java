/** Promises 8 (logic), 9 (mask) and, of 11 (draw), how a fixed number becomes a byte. */
public final class ColourTest {
    private static final int MIN = Integer.MIN_VALUE;
    private static final int MAX = Integer.MAX_VALUE;
    private static final int[] COLOURS = {0, -1, 0x12345678, 0xF0C3A596, 0x00FF00FF, 0x80000001};
    private static final Checks CHECKS = new Checks();

    public static void main(String[] args) {
        fixedNumbers();
        logics();
        logicGoesBeforeBlending();
        wrongLogics();
        masks();
        wrongMasks();
        CHECKS.end();
    }

    private static void fixedNumbers() {
        PlaceTests p = new PlaceTests();
        for (int fixed = -300; fixed <= 65836; fixed++) {
            if (fixed % 200 == 0) {
                p = new PlaceTests();
            }
            long cut = fixed < 0 ? 0 : fixed > 65536 ? 65536 : fixed;
            int want = (int) Math.floorDiv(255 * cut + 32768, 65536L);
            p.draw(0, 0, 0, 0, fixed, 65536 - fixed, fixed, 65536 - fixed);
            int other = (int) Math.floorDiv(255 * (65536 - cut) + 32768, 65536L);
            CHECKS.due("bytes of " + fixed, p.at(0, 0, 0), Checks.colour(want, other, want, other));
        }
        p = new PlaceTests();
        p.draw(0, 0, 0, 0, MIN, MAX, MIN, MAX);
        CHECKS.due("bytes of the ends", p.at(0, 0, 0), Checks.colour(0, 255, 0, 255));
        p.draw(0, 0, 0, 0, 128, 129, 65407, 65408);
        CHECKS.due("bytes at the steps", p.at(0, 0, 0), Checks.colour(0, 1, 254, 255));
        for (int value = 0; value < 256; value++) {
            p = new PlaceTests();
            p.draw(0, 0, 0, 0, Checks.fixed(value), 0, 0, 0);
            CHECKS.due("the tests' own fixed number of " + value, p.at(0, 0, 0), value);
        }
    }

    private static void logics() {
        for (int number = 0; number < 16; number++) {
            PlaceTests p = new PlaceTests();
            p.logic(number);
            for (int s : COLOURS) {
                for (int d : COLOURS) {
                    int want = 0;
                    for (int bit = 0; bit < 32; bit++) {
                        int place = 2 * (s >>> bit & 1) + (d >>> bit & 1);
                        want |= (number >>> place & 1) << bit;
                    }
                    p.clear(1, d, 0, 0);
                    Checks.drawBytes(p, 0, 0, s);
                    CHECKS.due("logic " + number + " of " + s + " on " + d, p.at(0, 0, 0), want);
                }
            }
        }
        PlaceTests p = new PlaceTests();
        p.logic(0);
        p.logic(-1);
        Checks.drawBytes(p, 0, 0, 0x12345678);
        CHECKS.due("no logic", p.at(0, 0, 0), 0x12345678);
    }

    private static void logicGoesBeforeBlending() {
        PlaceTests p = new PlaceTests();
        p.clear(1, 0x0F0F0F0F, 0, 0);
        p.logic(6);
        p.blend(0, 0, 0, 0, 0, 0);
        Checks.drawBytes(p, 0, 0, 0x3C3C3C3C);
        CHECKS.due("logic alone", p.at(0, 0, 0), 0x33333333);
        p.logic(-1);
        Checks.drawBytes(p, 0, 0, 0x3C3C3C3C);
        CHECKS.due("then blending again", p.at(0, 0, 0), 0);
    }

    private static void wrongLogics() {
        PlaceTests p = new PlaceTests();
        for (int number : new int[] {-2, 16, MIN, MAX}) {
            p.logic(15);
            CHECKS.dueIllegal("logic(" + number + ")", () -> p.logic(number));
            p.clear(1, 0, 0, 0);
            Checks.drawBytes(p, 0, 0, 0);
            CHECKS.due("logic stays", p.at(0, 0, 0), -1);
            p.logic(-1);
            CHECKS.dueIllegal("logic(" + number + ")", () -> p.logic(number));
            Checks.drawBytes(p, 0, 0, 0x12345678);
            CHECKS.due("no logic stays", p.at(0, 0, 0), 0x12345678);
        }
    }

    private static int merged(int channels, int fresh, int old) {
        return Checks.colour((channels & 1) != 0 ? fresh & 255 : old & 255,
                ((channels & 2) != 0 ? fresh : old) >>> 8 & 255,
                ((channels & 4) != 0 ? fresh : old) >>> 16 & 255,
                ((channels & 8) != 0 ? fresh : old) >>> 24);
    }

    private static void masks() {
        PlaceTests p = new PlaceTests();
        int old = 0x89ABCDEF;
        int fresh = 0x12345678;
        for (int channels = 0; channels < 16; channels++) {
            int want = merged(channels, fresh, old);
            start(p, channels, old);
            CHECKS.due("draw", Checks.drawBytes(p, 0, 0, fresh), 3);
            CHECKS.due("mask(" + channels + "): drawn", p.at(0, 0, 0), want);
            start(p, channels, old);
            CHECKS.due("clear", p.clear(1, fresh, 0, 0), 1);
            CHECKS.due("mask(" + channels + "): cleared", p.at(0, 0, 0), want);
            start(p, channels, old);
            p.logic(9);
            Checks.drawBytes(p, 0, 0, fresh);
            CHECKS.due("mask(" + channels + "): logic", p.at(0, 0, 0),
                    merged(channels, ~(fresh ^ old), old));
            p.logic(-1);
            start(p, channels, old);
            p.blend(6, 0, 0, 0, 0, 0);
            Checks.drawBytes(p, 0, 0, 0xFF345678);
            CHECKS.due("mask(" + channels + "): blended", p.at(0, 0, 0),
                    merged(channels, 0x00345678, old));
            p.blend(0, 0, 0, 0, -1, 0);
        }
    }

    private static void start(PlaceTests p, int channels, int colour) {
        p.mask(15);
        p.clear(1, colour, 0, 0);
        p.mask(channels);
    }

    private static void wrongMasks() {
        PlaceTests p = new PlaceTests();
        p.mask(6);
        for (int channels : new int[] {-1, 16, MIN, MAX}) {
            CHECKS.dueIllegal("mask(" + channels + ")", () -> p.mask(channels));
            Checks.drawBytes(p, 0, 0, -1);
            CHECKS.due("the mask stays", p.at(0, 0, 0), 0x00FFFF00);
        }
    }
}
