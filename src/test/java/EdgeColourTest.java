/** The boundaries that the document names for colours: fixed numbers, blending, logic, masks. */
public final class EdgeColourTest {
    private static final int MIN = Integer.MIN_VALUE;
    private static final int MAX = Integer.MAX_VALUE;
    private static final int[] BYTES = {0, 1, 127, 128, 254, 255};
    private static final Checks CHECKS = new Checks();

    private static final String[] FACTORS = {
        "0 0", "1 255", "2 s", "3 255 - s", "4 d", "5 255 - d", "6 sa", "7 255 - sa", "8 da",
        "9 255 - da", "10 c", "11 255 - c", "12 ca", "13 255 - ca",
        "14 the lesser one of sa and 255 - da (for channel a: 255)",
    };

    public static void main(String[] args) {
        fixedNumbersAreCut();
        bytesAreRoundedDown();
        factors();
        factorOfTheLesser();
        factorsOfFourKinds();
        sumsAreCut();
        differencesAreCut();
        nearestOfSums();
        nearestOfDifferences();
        lesserAndGreater();
        rightBlends();
        wrongFactors();
        wrongEquations();
        blendingOff();
        constants();
        logics();
        logicGoesBeforeBlending();
        logicOff();
        wrongLogics();
        masks();
        wrongMasks();
        CHECKS.end();
    }

    private static int grey(int channel) {
        return Checks.colour(channel, channel, channel, channel);
    }

    /** The colour that a place of the colour d has when s was drawn there. */
    private static int over(PlaceTests p, int s, int d) {
        p.clear(1, d, 0, 0);
        CHECKS.due("draw", Checks.drawBytes(p, 0, 0, s), 3);
        return p.at(0, 0, 0);
    }

    private static void fixedNumbersAreCut() {
        CHECKS.sentence("four FIXED numbers (65536 is 1): each is cut to 0 .. 65536");
        int[][] rows = {
            // fixed, byte
            {MIN, 0}, {MIN + 1, 0}, {-16843010, 0}, {-8421505, 0}, {-65536, 0}, {-257, 0},
            {-129, 0}, {-1, 0}, {0, 0}, {1, 0}, {65535, 255}, {65536, 255}, {65537, 255},
            {65793, 255}, {131072, 255}, {8421504, 255}, {8421505, 255}, {16843009, 255},
            {16843010, 255}, {MAX - 1, 255}, {MAX, 255},
        };
        PlaceTests p = new PlaceTests();
        for (int[] row : rows) {
            for (int channel = 0; channel < 4; channel++) {
                int[] f = {0, 0, 0, 0};
                f[channel] = row[0];
                p.draw(0, 0, 0, 0, f[0], f[1], f[2], f[3]);
                CHECKS.due("the fixed number " + row[0] + ", channel " + channel, p.at(0, 0, 0),
                        row[1] << 8 * channel);
            }
        }
    }

    private static void bytesAreRoundedDown() {
        CHECKS.sentence("its byte s is (255 times it and 32768) / 65536, rounded down");
        for (int value = 1; value < 256; value++) {
            // The least fixed number whose byte is the value.
            int least = (65536 * value - 32768 + 254) / 255;
            PlaceTests p = new PlaceTests();
            p.draw(0, 0, 0, 0, least - 1, least, least - 1, least + 1);
            CHECKS.due("round " + least, p.at(0, 0, 0),
                    Checks.colour(value - 1, value, value - 1, value));
            p.draw(0, 0, 0, 0, least, least - 1, least + 1, least - 1);
            CHECKS.due("round " + least, p.at(0, 0, 0),
                    Checks.colour(value, value - 1, value, value - 1));
        }
        int[][] rows = {
            {0, 0}, {1, 0}, {128, 0}, {129, 1}, {385, 1}, {386, 2}, {32767, 127}, {32768, 128},
            {65407, 254}, {65408, 255}, {65535, 255}, {65536, 255},
        };
        PlaceTests p = new PlaceTests();
        for (int[] row : rows) {
            p.draw(0, 0, 0, 0, row[0], row[0], row[0], row[0]);
            CHECKS.due("the fixed number " + row[0], p.at(0, 0, 0), grey(row[1]));
        }
    }

    /** The numbers are s, d and c of the channel, then sa, da and ca. */
    private static int factorOf(int number, boolean isA, int[] n) {
        switch (number) {
            case 0: return 0;
            case 1: return 255;
            case 2: return n[0];
            case 3: return 255 - n[0];
            case 4: return n[1];
            case 5: return 255 - n[1];
            case 6: return n[3];
            case 7: return 255 - n[3];
            case 8: return n[4];
            case 9: return 255 - n[4];
            case 10: return n[2];
            case 11: return 255 - n[2];
            case 12: return n[5];
            case 13: return 255 - n[5];
            default: return isA ? 255 : n[3] + n[4] < 255 ? n[3] : 255 - n[4];
        }
    }

    private static int nearest(int number) {
        return Math.floorDiv(2 * number + 255, 510);
    }

    private static void factors() {
        for (int number = 0; number < 15; number++) {
            CHECKS.sentence("a FACTOR of a channel is: " + FACTORS[number]);
            for (int i = 0; i < 6; i++) {
                for (int j = 0; j < 6; j++) {
                    PlaceTests p = new PlaceTests();
                    for (int k = 0; k < 6; k++) {
                        int[] n = {
                            BYTES[i], BYTES[j], BYTES[(j + k) % 6], BYTES[k], BYTES[(i + k) % 6],
                            BYTES[(i + j + 1) % 6],
                        };
                        oneFactor(p, number, n);
                    }
                }
            }
        }
    }

    private static void oneFactor(PlaceTests p, int number, int[] n) {
        int s = Checks.colour(n[0], n[0], n[0], n[3]);
        int d = Checks.colour(n[1], n[1], n[1], n[4]);
        p.constant(Checks.colour(n[2], n[2], n[2], n[5]));
        int ofColour = factorOf(number, false, n);
        int ofA = factorOf(number, true, new int[] {n[3], n[4], n[5], n[3], n[4], n[5]});
        String when = "factor " + number + " of " + s + " on " + d;
        p.blend(number, 0, number, 0, 0, 0);
        int source = nearest(n[0] * ofColour);
        CHECKS.due(when + ", for s", over(p, s, d),
                Checks.colour(source, source, source, nearest(n[3] * ofA)));
        p.blend(0, number, 0, number, 0, 0);
        int place = nearest(n[1] * ofColour);
        CHECKS.due(when + ", for d", over(p, s, d),
                Checks.colour(place, place, place, nearest(n[4] * ofA)));
    }

    private static void factorOfTheLesser() {
        CHECKS.sentence("14 the lesser one of sa and 255 - da (for channel a: 255)");
        int[][] rows = {
            // sa, da, the lesser one
            {99, 155, 99}, {100, 155, 100}, {101, 155, 100}, {100, 154, 100}, {100, 156, 99},
            {0, 0, 0}, {0, 255, 0}, {255, 0, 255}, {255, 255, 0}, {255, 1, 254}, {254, 0, 254},
            {1, 255, 0}, {1, 254, 1}, {1, 253, 1}, {127, 128, 127}, {128, 127, 128},
            {128, 128, 127},
        };
        PlaceTests p = new PlaceTests();
        p.blend(14, 0, 14, 0, 0, 0);
        for (int[] row : rows) {
            CHECKS.due("sa " + row[0] + ", da " + row[1] + ", for s",
                    over(p, Checks.colour(255, 255, 255, row[0]), Checks.colour(9, 9, 9, row[1])),
                    Checks.colour(row[2], row[2], row[2], row[0]));
        }
        p.blend(0, 14, 0, 14, 0, 0);
        for (int[] row : rows) {
            CHECKS.due("sa " + row[0] + ", da " + row[1] + ", for d",
                    over(p, Checks.colour(9, 9, 9, row[0]), Checks.colour(255, 255, 255, row[1])),
                    Checks.colour(row[2], row[2], row[2], row[1]));
        }
    }

    private static void factorsOfFourKinds() {
        CHECKS.sentence("There are four: for s and for d of the channels r, g, b; for s and for d"
                + " of channel a");
        int s = Checks.colour(10, 20, 30, 40);
        int d = Checks.colour(50, 60, 70, 80);
        int[][] rows = {
            {1, 0, 0, 0, Checks.colour(10, 20, 30, 0)}, {0, 1, 0, 0, Checks.colour(50, 60, 70, 0)},
            {0, 0, 1, 0, Checks.colour(0, 0, 0, 40)}, {0, 0, 0, 1, Checks.colour(0, 0, 0, 80)},
            {1, 1, 1, 1, Checks.colour(60, 80, 100, 120)},
        };
        PlaceTests p = new PlaceTests();
        for (int[] row : rows) {
            p.blend(row[0], row[1], row[2], row[3], 0, 0);
            CHECKS.due("blend", over(p, s, d), row[4]);
        }
        CHECKS.sentence("An EQUATION of these and one of channel a");
        int[] alone = {120, 0, 40, 40, 80};
        int[] colours = {
            Checks.colour(60, 80, 100, 0), 0, Checks.colour(40, 40, 40, 0),
            Checks.colour(10, 20, 30, 0), Checks.colour(50, 60, 70, 0),
        };
        for (int equation = 0; equation < 5; equation++) {
            for (int equationA = 0; equationA < 5; equationA++) {
                p.blend(1, 1, 1, 1, equation, equationA);
                CHECKS.due("equations " + equation + " and " + equationA, over(p, s, d),
                        colours[equation] | alone[equationA] << 24);
            }
        }
    }

    /** The equation for r, g, b first, then for a, with both factors 255. */
    private static void equation(int number, int[][] rows) {
        PlaceTests p = new PlaceTests();
        for (int[] row : rows) {
            String when = "equation " + number + " of " + row[0] + " and " + row[1];
            p.blend(1, 1, 0, 0, number, 0);
            CHECKS.due(when, over(p, grey(row[0]), grey(row[1])), grey(row[2]) & 0x00FFFFFF);
            p.blend(0, 0, 1, 1, 0, number);
            CHECKS.due(when + ", channel a", over(p, grey(row[0]), grey(row[1])), row[2] << 24);
        }
    }

    private static void sumsAreCut() {
        CHECKS.sentence("0 S + D .. cut to 0 .. 255");
        equation(0, new int[][] {
            {0, 0, 0}, {0, 1, 1}, {1, 0, 1}, {127, 127, 254}, {127, 128, 255}, {128, 127, 255},
            {128, 128, 255}, {253, 1, 254}, {254, 1, 255}, {254, 2, 255}, {255, 0, 255},
            {0, 255, 255}, {255, 1, 255}, {1, 255, 255}, {255, 255, 255},
        });
    }

    private static void differencesAreCut() {
        CHECKS.sentence("1 S - D .. cut to 0 .. 255");
        int[][] rows = {
            {0, 0, 0}, {0, 1, 0}, {1, 0, 1}, {1, 1, 0}, {2, 1, 1}, {127, 128, 0}, {128, 128, 0},
            {128, 127, 1}, {255, 0, 255}, {255, 1, 254}, {255, 254, 1}, {255, 255, 0},
            {254, 255, 0}, {0, 255, 0},
        };
        equation(1, rows);
        CHECKS.sentence("2 D - S .. cut to 0 .. 255");
        int[][] turned = new int[rows.length][];
        for (int i = 0; i < rows.length; i++) {
            turned[i] = new int[] {rows[i][1], rows[i][0], rows[i][2]};
        }
        equation(2, turned);
    }

    /** 1 times a constant of this channel is added to, or taken from, 255 times each byte. */
    private static void besideWhole(int rule, int part, int change) {
        PlaceTests p = new PlaceTests();
        for (int whole = 0; whole < 256; whole++) {
            if (whole % 64 == 0) {
                p = new PlaceTests();
                p.constant(grey(part));
                int ofS = rule == 1 ? 1 : 10;
                int ofD = rule == 1 ? 10 : 1;
                p.blend(ofS, ofD, ofS, ofD, rule, rule);
            }
            int got = rule == 1 ? over(p, grey(whole), grey(1)) : over(p, grey(1), grey(whole));
            int want = Math.max(0, Math.min(255, whole + change));
            CHECKS.due("equation " + rule + ": 255 times " + whole + " and " + part, got,
                    grey(want));
        }
    }

    private static void nearestOfSums() {
        CHECKS.sentence("S + D .. divided by 255, to the nearest (no two are nearest)");
        int[][] rows = {{0, 0}, {1, 0}, {126, 0}, {127, 0}, {128, 1}, {129, 1}, {254, 1}, {255, 1}};
        for (int[] row : rows) {
            besideWhole(0, row[0], row[1]);
        }
    }

    private static void nearestOfDifferences() {
        CHECKS.sentence("S - D, D - S .. divided by 255, to the nearest (no two are nearest)");
        int[][] rows = {{0, 0}, {1, 0}, {126, 0}, {127, 0}, {128, 1}, {129, 1}, {254, 1}, {255, 1}};
        for (int[] row : rows) {
            besideWhole(1, row[0], -row[1]);
            besideWhole(2, row[0], -row[1]);
        }
    }

    private static void lesserAndGreater() {
        for (int number = 3; number < 5; number++) {
            CHECKS.sentence(number == 3 ? "3 the lesser one of s and d" : "4 the greater one");
            for (int s : BYTES) {
                PlaceTests p = new PlaceTests();
                for (int d : BYTES) {
                    int want = (s < d) == (number == 3) ? s : d;
                    p.blend(0, 0, 0, 0, number, number);
                    CHECKS.due("of " + s + " and " + d, over(p, grey(s), grey(d)), grey(want));
                    p.blend(14, 7, 5, 3, number, number);
                    CHECKS.due("of " + s + " and " + d + ", whatever the factors",
                            over(p, grey(s), grey(d)), grey(want));
                }
            }
        }
    }

    private static void rightBlends() {
        CHECKS.sentence("Blending with four factors and two equations");
        PlaceTests p = new PlaceTests();
        p.blend(0, 0, 0, 0, 0, 0);
        CHECKS.due("the least numbers", over(p, -1, -1), 0);
        p.blend(14, 14, 14, 14, 4, 4);
        CHECKS.due("the greatest numbers", over(p, grey(7), grey(6)), grey(7));
        p.blend(14, 14, 14, 14, 0, 0);
        CHECKS.due("the greatest factors", over(p, Checks.colour(255, 0, 255, 60),
                Checks.colour(0, 255, 255, 150)), Checks.colour(60, 60, 120, 210));
    }

    private static void refuses(int... b) {
        String call = "blend(" + b[0] + ", " + b[1] + ", " + b[2] + ", " + b[3] + ", " + b[4] + ", "
                + b[5] + ")";
        PlaceTests p = new PlaceTests();
        CHECKS.dueIllegal(call, () -> p.blend(b[0], b[1], b[2], b[3], b[4], b[5]));
        CHECKS.due("off after " + call, over(p, 0x12345678, -1), 0x12345678);
        // The new channels less the place's; for channel a the other way round.
        p.blend(1, 1, 1, 1, 1, 2);
        CHECKS.dueIllegal(call, () -> p.blend(b[0], b[1], b[2], b[3], b[4], b[5]));
        CHECKS.due("after " + call, over(p, 0x10305070, 0x70202020), 0x60103050);
    }

    private static void wrongFactors() {
        CHECKS.sentence("blend: IllegalArgumentException for others (factors)");
        for (int wrong : new int[] {MIN, -1, 15, MAX}) {
            for (int which = 0; which < 5; which++) {
                int[] least = {0, 0, 0, 0, 0, 0};
                int[] greatest = {14, 14, 14, 14, 4, 4};
                for (int i = 0; i < 4; i++) {
                    if (i == which || which == 4) {
                        least[i] = wrong;
                        greatest[i] = wrong;
                    }
                }
                refuses(least);
                refuses(greatest);
            }
        }
    }

    private static void wrongEquations() {
        CHECKS.sentence("blend: IllegalArgumentException for others (equations)");
        for (int wrong : new int[] {MIN, -2, 5, MAX}) {
            refuses(0, 0, 0, 0, wrong, 0);
            refuses(14, 14, 14, 14, wrong, 4);
            refuses(0, 0, 0, 0, 0, wrong);
            refuses(14, 14, 14, 14, 4, wrong);
            refuses(1, 1, 1, 1, wrong, wrong);
            refuses(1, 1, 1, 1, wrong, -1);
        }
        // -1 means none for the first equation alone.
        for (int equation = 0; equation < 5; equation++) {
            refuses(0, 0, 0, 0, equation, -1);
        }
    }

    private static void blendingOff() {
        CHECKS.sentence("(equation -1) none .. (if equation is -1 nothing is looked at)");
        int[] odd = {MIN, -2, -1, 0, 5, 14, 15, MAX};
        for (int number : odd) {
            for (int which = 0; which < 6; which++) {
                int[] b = {0, 0, 0, 0, -1, 0};
                for (int i = 0; i < 6; i++) {
                    b[i] = i != 4 && (i == which || which == 4) ? number : b[i];
                }
                PlaceTests p = new PlaceTests();
                p.blend(0, 0, 0, 0, 0, 0);
                CHECKS.due("on", over(p, 0x12345678, -1), 0);
                p.blend(b[0], b[1], b[2], b[3], b[4], b[5]);
                CHECKS.due("off", over(p, 0x12345678, -1), 0x12345678);
                p.blend(1, 0, 1, 0, 0, 0);
                CHECKS.due("on again", over(p, 0x12345678, -1), 0x12345678);
            }
        }
    }

    private static void constants() {
        CHECKS.sentence("The constant colour (any number)");
        PlaceTests p = new PlaceTests();
        p.blend(10, 0, 10, 0, 0, 0);
        for (int colour : new int[] {MIN, MIN + 1, -2, -1, 0, 1, 255, 256, 65535, 65536, 16777215,
            16777216, MAX - 1, MAX, 0x80FF017F}) {
            p.constant(colour);
            CHECKS.due("constant(" + colour + ")", over(p, -1, 0), colour);
        }
        p.blend(11, 0, 11, 0, 0, 0);
        for (int colour : new int[] {MIN, -1, 0, 1, MAX}) {
            p.constant(colour);
            CHECKS.due("255 - c, constant(" + colour + ")", over(p, -1, 0), ~colour);
        }
        int[][] channelsA = {
            {MIN, 128}, {-1, 255}, {0, 0}, {16777215, 0}, {16777216, 1}, {MAX, 127},
        };
        for (int[] row : channelsA) {
            p.constant(row[0]);
            p.blend(12, 0, 12, 0, 0, 0);
            CHECKS.due("ca, constant(" + row[0] + ")", over(p, -1, 0), grey(row[1]));
            p.blend(13, 0, 13, 0, 0, 0);
            CHECKS.due("255 - ca, constant(" + row[0] + ")", over(p, -1, 0), grey(255 - row[1]));
        }
        CHECKS.sentence("The constant colour: it stays while blending is off or changes");
        p.constant(0x11223344);
        p.blend(0, 0, 0, 0, -1, 0);
        p.blend(10, 0, 10, 0, 0, 0);
        CHECKS.due("draw", over(p, -1, 0), 0x11223344);
    }

    private static void logics() {
        CHECKS.sentence("each bit of a channel is the bit of that number whose place is 2 times the"
                + " bit of s and the bit of d");
        for (int number = 0; number < 16; number++) {
            PlaceTests p = new PlaceTests();
            p.logic(number);
            // Of 1100 and 1010 the places are 3, 2, 1, 0: the bits are the number's own.
            CHECKS.due("logic(" + number + ")", over(p, 0xCCCCCCCC, 0xAAAAAAAA),
                    number * 0x11111111);
            int[][] ends = {{0, 0, 1}, {0, -1, 2}, {-1, 0, 4}, {-1, -1, 8}};
            for (int[] end : ends) {
                CHECKS.due("logic(" + number + ") of " + end[0] + " on " + end[1],
                        over(p, end[0], end[1]), (number & end[2]) != 0 ? -1 : 0);
            }
            for (int channel = 0; channel < 4; channel++) {
                int alone = 0xCC << 8 * channel;
                int want = (number & 1) != 0 ? -1 : 0;
                want &= ~(255 << 8 * channel);
                want |= (number * 0x11) << 8 * channel;
                CHECKS.due("logic(" + number + ") of channel " + channel,
                        over(p, alone, 0xAA << 8 * channel), want);
            }
        }
    }

    private static void logicGoesBeforeBlending() {
        CHECKS.sentence("It goes before blending");
        for (int equation = 0; equation < 5; equation++) {
            PlaceTests p = new PlaceTests();
            p.blend(0, 0, 0, 0, equation, equation);
            for (int number = 0; number < 16; number++) {
                p.logic(number);
                CHECKS.due("logic(" + number + "), equation " + equation,
                        over(p, 0xCCCCCCCC, 0xAAAAAAAA), number * 0x11111111);
            }
            p.logic(-1);
            int[] want = {0, 0, 0, 0xAAAAAAAA, 0xCCCCCCCC};
            CHECKS.due("blending again", over(p, 0xCCCCCCCC, 0xAAAAAAAA), want[equation]);
        }
    }

    private static void logicOff() {
        CHECKS.sentence("Logic 0 .. 15, or (-1) none");
        for (int number : new int[] {0, 1, 14, 15}) {
            PlaceTests p = new PlaceTests();
            p.logic(number);
            CHECKS.due("logic(" + number + ")", over(p, 0xCCCCCCCC, 0xAAAAAAAA),
                    number * 0x11111111);
            p.logic(-1);
            CHECKS.due("logic(-1)", over(p, 0x12345678, 0xAAAAAAAA), 0x12345678);
        }
    }

    private static void wrongLogics() {
        CHECKS.sentence("logic: IllegalArgumentException for another number");
        for (int wrong : new int[] {MIN, -2, 16, MAX}) {
            PlaceTests p = new PlaceTests();
            CHECKS.dueIllegal("logic(" + wrong + ")", () -> p.logic(wrong));
            CHECKS.due("still off", over(p, 0x12345678, 0xAAAAAAAA), 0x12345678);
            for (int right : new int[] {0, 6, 15}) {
                p.logic(right);
                CHECKS.dueIllegal("logic(" + wrong + ")", () -> p.logic(wrong));
                CHECKS.due("it stays", over(p, 0xCCCCCCCC, 0xAAAAAAAA), right * 0x11111111);
            }
        }
    }

    private static void masks() {
        CHECKS.sentence("those that the colour MASK has (1 r, 2 g, 4 b, 8 a) are written");
        int[] bits = {
            0, 0x000000FF, 0x0000FF00, 0x0000FFFF, 0x00FF0000, 0x00FF00FF, 0x00FFFF00, 0x00FFFFFF,
            0xFF000000, 0xFF0000FF, 0xFF00FF00, 0xFF00FFFF, 0xFFFF0000, 0xFFFF00FF, 0xFFFFFF00, -1,
        };
        for (int channels = 0; channels < 16; channels++) {
            for (int drawn : new int[] {0, -1, 0x12345678}) {
                PlaceTests p = new PlaceTests();
                p.clear(1, ~drawn, 0, 0);
                p.mask(channels);
                CHECKS.due("draw", Checks.drawBytes(p, 0, 0, drawn), 3);
                int want = ~drawn & ~bits[channels] | drawn & bits[channels];
                CHECKS.due("mask(" + channels + ")", p.at(0, 0, 0), want);
                p.logic(5);
                Checks.drawBytes(p, 0, 0, 0);
                CHECKS.due("mask(" + channels + "), logic", p.at(0, 0, 0), want ^ bits[channels]);
                p.logic(-1);
                p.blend(0, 0, 0, 0, 0, 0);
                Checks.drawBytes(p, 0, 0, drawn);
                CHECKS.due("mask(" + channels + "), blending", p.at(0, 0, 0),
                        want & ~bits[channels]);
                p.clear(1, -1, 0, 0);
                CHECKS.due("mask(" + channels + "), cleared", p.at(0, 0, 0),
                        want | bits[channels]);
            }
        }
    }

    private static void wrongMasks() {
        CHECKS.sentence("mask: IllegalArgumentException if it is not 0 .. 15");
        for (int wrong : new int[] {MIN, -1, 16, MAX}) {
            PlaceTests p = new PlaceTests();
            CHECKS.dueIllegal("mask(" + wrong + ")", () -> p.mask(wrong));
            CHECKS.due("still 15", over(p, 0x12345678, 0), 0x12345678);
            p.mask(0);
            CHECKS.dueIllegal("mask(" + wrong + ")", () -> p.mask(wrong));
            CHECKS.due("still 0", over(p, -1, -1), 0x12345678);
            p.mask(9);
            CHECKS.dueIllegal("mask(" + wrong + ")", () -> p.mask(wrong));
            CHECKS.due("still 9", over(p, -1, 0), 0xFF3456FF);
        }
    }
}
