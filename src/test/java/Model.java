import java.util.HashMap;
import java.util.Map;

/**
 * The document once more, for the tests: written from its words channel by channel, with a map of
 * places, so that it shares no way of reckoning with the program. Wrong arguments are answered
 * with null.
 */
final class Model {
    /** r, g, b, a, depth, stencil of each place of the frame. */
    private Map<Long, int[]> places = new HashMap<>();
    private int[] frame = {0, 0, 1, 1};
    private int[] scissors;
    private Integer depthTest;
    private boolean depthWritten;
    private final int[][] stencils = new int[2][];
    private int[] blend;
    private int[] constant = {0, 0, 0, 0};
    private Integer logic;
    private int mask = 15;
    private final int[] answers = new int[4];

    Model() {
        newPlaces();
    }

    private static boolean in(int number, int from, int to) {
        return from <= number && number <= to;
    }

    private static long key(int x, int y) {
        return x * (1L << 32) + (y & 0xFFFFFFFFL);
    }

    private void newPlaces() {
        places = new HashMap<>();
        for (int i = 0; i < frame[2]; i++) {
            for (int k = 0; k < frame[3]; k++) {
                places.put(key(frame[0] + i, frame[1] + k), new int[6]);
            }
        }
    }

    private int[] open(int x, int y) {
        boolean cut = scissors != null && !(scissors[0] <= x && x < scissors[2]
                && scissors[1] <= y && y < scissors[3]);
        return cut ? null : places.get(key(x, y));
    }

    private static int[] channels(int colour) {
        return new int[] {colour & 255, colour >> 8 & 255, colour >> 16 & 255, colour >> 24 & 255};
    }

    private static boolean test(int number, int a, int b) {
        boolean below = (number & 1) != 0;
        boolean same = (number & 2) != 0;
        boolean above = (number & 4) != 0;
        return a < b ? below : a == b ? same : above;
    }

    private static int deed(int[] rule, int deed, int stencil) {
        int result = stencil;
        if (deed == 1) {
            result = 0;
        } else if (deed == 2) {
            result = rule[1];
        } else if (deed == 3 || deed == 6) {
            result = stencil < 255 ? stencil + 1 : deed == 3 ? 255 : 0;
        } else if (deed == 4 || deed == 7) {
            result = stencil > 0 ? stencil - 1 : deed == 4 ? 0 : 255;
        } else if (deed == 5) {
            result = 255 - stencil;
        }
        int written = 0;
        for (int bit = 1; bit < 256; bit *= 2) {
            written += ((rule[3] & bit) != 0 ? result : stencil) & bit;
        }
        return written;
    }

    private int factor(int number, int[] s, int[] d, int channel) {
        if (number == 14) {
            return channel == 3 ? 255 : Math.min(s[3], 255 - d[3]);
        }
        int[] plain = {0, s[channel], d[channel], s[3], d[3], constant[channel], constant[3]};
        return number % 2 == 0 ? plain[number / 2] : 255 - plain[number / 2];
    }

    private int newChannel(int[] s, int[] d, int i) {
        if (logic != null) {
            int result = 0;
            for (int bit = 0; bit < 8; bit++) {
                int at = (s[i] >> bit & 1) * 2 + (d[i] >> bit & 1);
                result += (logic >> at & 1) << bit;
            }
            return result;
        }
        if (blend == null) {
            return s[i];
        }
        int equation = i == 3 ? blend[5] : blend[4];
        if (equation > 2) {
            return equation == 3 ? Math.min(s[i], d[i]) : Math.max(s[i], d[i]);
        }
        int ofS = s[i] * factor(blend[i == 3 ? 2 : 0], s, d, i) * (equation == 2 ? -1 : 1);
        int ofD = d[i] * factor(blend[i == 3 ? 3 : 1], s, d, i) * (equation == 1 ? -1 : 1);
        int nearest = Math.floorDiv(2 * (ofS + ofD) + 255, 510);
        return nearest < 0 ? 0 : Math.min(nearest, 255);
    }

    private void write(int[] place, int[] colour) {
        for (int i = 0; i < 4; i++) {
            if ((mask >> i & 1) == 1) {
                place[i] = colour[i];
            }
        }
    }

    private int drawOpen(int[] place, int depth, int[] rule, int[] s) {
        if (rule != null && !test(rule[0], rule[1] & rule[2], place[5] & rule[2])) {
            place[5] = deed(rule, rule[4], place[5]);
            return 1;
        }
        boolean near = depthTest == null || test(depthTest, depth, place[4]);
        if (rule != null) {
            place[5] = deed(rule, rule[near ? 6 : 5], place[5]);
        }
        if (!near) {
            return 2;
        }
        if (depthTest != null && depthWritten) {
            place[4] = depth;
        }
        int[] fresh = new int[4];
        for (int i = 0; i < 4; i++) {
            fresh[i] = newChannel(s, place, i);
        }
        write(place, fresh);
        return 3;
    }

    private static int value(int[] place, int what) {
        return what == 0 ? (int) (place[3] * 16777216L + place[2] * 65536 + place[1] * 256
                + place[0]) : place[3 + what];
    }

    Integer frame(int x0, int y0, int wide, int high) {
        if (!in(wide, 1, 64) || !in(high, 1, 64) || !in(x0, 0, 1023) || !in(y0, 0, 1023)) {
            return null;
        }
        frame = new int[] {x0, y0, wide, high};
        newPlaces();
        return 0;
    }

    Integer scissors(int x0, int y0, int x1, int y1) {
        scissors = x1 < x0 ? null : new int[] {x0, y0, x1, y1};
        return 0;
    }

    Integer depth(int test, boolean written) {
        if (!in(test, -1, 7)) {
            return null;
        }
        depthTest = test == -1 ? null : test;
        depthWritten = written;
        return 0;
    }

    Integer stencil(int side, int... rule) {
        if (!in(side, 0, 1)) {
            return null;
        }
        if (rule[0] == -1) {
            stencils[side] = null;
            return 0;
        }
        for (int i = 0; i < 7; i++) {
            if (!in(rule[i], 0, i >= 1 && i <= 3 ? 255 : 7)) {
                return null;
            }
        }
        stencils[side] = rule.clone();
        return 0;
    }

    Integer blend(int... rule) {
        if (rule[4] == -1) {
            blend = null;
            return 0;
        }
        for (int i = 0; i < 6; i++) {
            if (!in(rule[i], 0, i < 4 ? 14 : 4)) {
                return null;
            }
        }
        blend = rule.clone();
        return 0;
    }

    Integer constant(int colour) {
        constant = channels(colour);
        return 0;
    }

    Integer logic(int number) {
        if (!in(number, -1, 15)) {
            return null;
        }
        logic = number == -1 ? null : number;
        return 0;
    }

    Integer mask(int channels) {
        if (!in(channels, 0, 15)) {
            return null;
        }
        mask = channels;
        return 0;
    }

    Integer clear(int what, int colour, int depth, int stencil) {
        if (!in(what, 0, 7) || !in(depth, 0, 16777215) || !in(stencil, 0, 255)) {
            return null;
        }
        int count = 0;
        for (int x = frame[0]; x < frame[0] + frame[2]; x++) {
            for (int y = frame[1]; y < frame[1] + frame[3]; y++) {
                int[] place = open(x, y);
                if (place == null) {
                    continue;
                }
                count++;
                if (what % 2 == 1) {
                    write(place, channels(colour));
                }
                if (what / 2 % 2 == 1 && (depthTest == null || depthWritten)) {
                    place[4] = depth;
                }
                if (what / 4 == 1) {
                    int[] rule = {0, stencil, 0, stencils[0] == null ? 255 : stencils[0][3]};
                    place[5] = deed(rule, 2, place[5]);
                }
            }
        }
        return count;
    }

    Integer draw(int x, int y, int depth, int side, int... fixed) {
        if (!in(depth, 0, 16777215) || !in(side, 0, 1)) {
            return null;
        }
        int[] s = new int[4];
        for (int i = 0; i < 4; i++) {
            s[i] = (int) ((255L * Math.min(Math.max(fixed[i], 0), 65536) + 32768) >> 16);
        }
        int[] place = open(x, y);
        int answer = place == null ? 0 : drawOpen(place, depth, stencils[side], s);
        answers[answer]++;
        return answer;
    }

    Integer at(int x, int y, int what) {
        int[] place = places.get(key(x, y));
        return place == null || !in(what, 0, 2) ? null : value(place, what);
    }

    Integer drawn(int answer) {
        return in(answer, 0, 3) ? answers[answer] : null;
    }

    Integer sum(int what) {
        if (!in(what, 0, 2)) {
            return null;
        }
        int total = 0;
        for (int y = frame[1]; y < frame[1] + frame[3]; y++) {
            for (int x = frame[0]; x < frame[0] + frame[2]; x++) {
                total = total * 31 + value(places.get(key(x, y)), what);
            }
        }
        return total;
    }
}
