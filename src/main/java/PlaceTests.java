/**
 * What becomes of a place that is to be drawn: scissors, stencil and depth, masks, blending or
 * logic; in a small frame of colours, depths and stencils.
 */
public final class PlaceTests {
    private static final int OFF = -1;
    private static final int ALL_BITS = -1;
    private static final int BYTE_MOST = 255;
    private static final int DEPTH_MOST = (1 << 24) - 1;
    private static final int LAST_TEST = 7;
    private static final int LAST_DEED = 7;
    private static final int LAST_FACTOR = 14;
    private static final int LAST_EQUATION = 4;
    private static final int LAST_LOGIC = 15;
    private static final int ALL_CHANNELS = 15;

    private static final int COLOUR = 0;
    private static final int DEPTH = 1;
    private static final int STENCIL = 2;

    private static final int CLEARS_COLOUR = 1;
    private static final int CLEARS_DEPTH = 2;
    private static final int CLEARS_STENCIL = 4;
    private static final int CLEARS_ALL = 7;

    private static final int NOT_OPEN = 0;
    private static final int STENCIL_FAILS = 1;
    private static final int DEPTH_FAILS = 2;
    private static final int ALL_HOLD = 3;

    private Frame places;
    private final Scissors opening;
    private int depthTest;
    private boolean depthWritten;
    private final StencilRule front;
    private final StencilRule back;
    private final Blending blending;
    private int logicNumber;
    private int colourBits;
    private final int[] answers;

    public PlaceTests() {
        places = new Frame(1);
        opening = new Scissors();
        depthTest = OFF;
        depthWritten = false;
        front = new StencilRule();
        back = new StencilRule();
        blending = new Blending();
        logicNumber = OFF;
        colourBits = ALL_BITS;
        answers = new int[ALL_HOLD + 1];
    }

    public void frame(int x0, int y0, int wide, int high) throws IllegalArgumentException {
        if (!isWithin(wide, 1, Frame.SIDE_MOST) || !isWithin(high, 1, Frame.SIDE_MOST)) {
            throw new IllegalArgumentException("wide and high are 1 .. 64");
        }
        if (!isWithin(x0, 0, Frame.START_MOST) || !isWithin(y0, 0, Frame.START_MOST)) {
            throw new IllegalArgumentException("x0 and y0 are 0 .. 1023");
        }
        // The largest rows at once: an object makes rows twice at most, however often it is framed.
        if (wide * high > places.room) {
            places = new Frame(Frame.PLACES_MOST);
        }
        places.begin(x0, y0, wide, high);
    }

    public void scissors(int x0, int y0, int x1, int y1) {
        opening.x0 = x0;
        opening.y0 = y0;
        opening.x1 = x1;
        opening.y1 = y1;
    }

    public void depth(int test, boolean written) throws IllegalArgumentException {
        if (!isWithin(test, OFF, LAST_TEST)) {
            throw new IllegalArgumentException("a test is 0 .. 7, or -1 for none");
        }
        depthTest = test;
        depthWritten = written;
    }

    public void stencil(int side, int test, int value, int mask, int written, int fails,
            int depthFails, int holds) throws IllegalArgumentException {
        if (!isSide(side)) {
            throw new IllegalArgumentException("a side is 0 or 1");
        }
        StencilRule rule = ruleOf(side);
        if (test == OFF) {
            rule.test = OFF;
            return;
        }
        if (!isWithin(test, 0, LAST_TEST)) {
            throw new IllegalArgumentException("a test is 0 .. 7, or -1 for none");
        }
        if (!isByte(value) || !isByte(mask) || !isByte(written)) {
            throw new IllegalArgumentException("the value and the masks are bytes");
        }
        if (!isDeed(fails) || !isDeed(depthFails) || !isDeed(holds)) {
            throw new IllegalArgumentException("a deed is 0 .. 7");
        }
        rule.test = test;
        rule.value = value;
        rule.mask = mask;
        rule.written = written;
        rule.fails = fails;
        rule.depthFails = depthFails;
        rule.holds = holds;
    }

    public void blend(int source, int place, int sourceA, int placeA, int equation, int equationA)
            throws IllegalArgumentException {
        if (equation == OFF) {
            blending.equation = OFF;
            return;
        }
        if (!isFactor(source) || !isFactor(place) || !isFactor(sourceA) || !isFactor(placeA)) {
            throw new IllegalArgumentException("a factor is 0 .. 14");
        }
        if (!isWithin(equation, 0, LAST_EQUATION) || !isWithin(equationA, 0, LAST_EQUATION)) {
            throw new IllegalArgumentException("an equation is 0 .. 4");
        }
        blending.source = source;
        blending.place = place;
        blending.sourceA = sourceA;
        blending.placeA = placeA;
        blending.equation = equation;
        blending.equationA = equationA;
    }

    public void constant(int colour) {
        blending.constant = colour;
    }

    public void logic(int number) throws IllegalArgumentException {
        if (!isWithin(number, OFF, LAST_LOGIC)) {
            throw new IllegalArgumentException("logic is 0 .. 15, or -1 for none");
        }
        logicNumber = number;
    }

    public void mask(int channels) throws IllegalArgumentException {
        if (!isWithin(channels, 0, ALL_CHANNELS)) {
            throw new IllegalArgumentException("a colour mask is 0 .. 15");
        }
        colourBits = Colour.bitsOf(channels);
    }

    public int clear(int what, int colour, int depth, int stencil) throws IllegalArgumentException {
        if (!isWithin(what, 0, CLEARS_ALL)) {
            throw new IllegalArgumentException("what is cleared is 0 .. 7");
        }
        if (!isDepth(depth)) {
            throw new IllegalArgumentException("a depth is 0 .. 2^24 - 1");
        }
        if (!isByte(stencil)) {
            throw new IllegalArgumentException("a stencil is a byte");
        }
        int cleared = 0;
        for (int y = places.y0; y < places.y0 + places.high; y++) {
            for (int x = places.x0; x < places.x0 + places.wide; x++) {
                if (opening.hold(x, y)) {
                    clearPlace(places.indexOf(x, y), what, colour, depth, stencil);
                    cleared++;
                }
            }
        }
        return cleared;
    }

    public int draw(int x, int y, int depth, int side, int r, int g, int b, int a)
            throws IllegalArgumentException {
        if (!isDepth(depth)) {
            throw new IllegalArgumentException("a depth is 0 .. 2^24 - 1");
        }
        if (!isSide(side)) {
            throw new IllegalArgumentException("a side is 0 or 1");
        }
        int answer = NOT_OPEN;
        if (places.has(x, y) && opening.hold(x, y)) {
            answer = drawOpen(places.indexOf(x, y), depth, ruleOf(side),
                    Colour.ofFixed(r, g, b, a));
        }
        answers[answer]++;
        return answer;
    }

    public int at(int x, int y, int what) throws IllegalArgumentException, IndexOutOfBoundsException {
        if (!isWithin(what, COLOUR, STENCIL)) {
            throw new IllegalArgumentException("what is asked for is 0 .. 2");
        }
        if (!places.has(x, y)) {
            throw new IndexOutOfBoundsException("the place is not in the frame");
        }
        return places.rowsOf(what)[places.indexOf(x, y)];
    }

    public int drawn(int answer) throws IllegalArgumentException {
        if (!isWithin(answer, NOT_OPEN, ALL_HOLD)) {
            throw new IllegalArgumentException("an answer is 0 .. 3");
        }
        return answers[answer];
    }

    public int sum(int what) throws IllegalArgumentException {
        if (!isWithin(what, COLOUR, STENCIL)) {
            throw new IllegalArgumentException("what is asked for is 0 .. 2");
        }
        int[] rows = places.rowsOf(what);
        int total = 0;
        for (int i = 0; i < places.count; i++) {
            total = 31 * total + rows[i];
        }
        return total;
    }

    private int drawOpen(int index, int depth, StencilRule rule, int colour) {
        int stencil = places.stencils[index];
        if (!rule.allows(stencil)) {
            places.stencils[index] = rule.changed(stencil, rule.fails);
            return STENCIL_FAILS;
        }
        if (depthTest != OFF && !compares(depthTest, depth, places.depths[index])) {
            places.stencils[index] = rule.changed(stencil, rule.depthFails);
            return DEPTH_FAILS;
        }
        places.stencils[index] = rule.changed(stencil, rule.holds);
        if (depthTest != OFF && depthWritten) {
            places.depths[index] = depth;
        }
        int held = places.colours[index];
        places.colours[index] = merged(held, newColour(colour, held), colourBits);
        return ALL_HOLD;
    }

    private int newColour(int colour, int held) {
        if (logicNumber != OFF) {
            return Colour.byLogic(logicNumber, colour, held);
        }
        return blending.equation != OFF ? blending.blended(colour, held) : colour;
    }

    private void clearPlace(int index, int what, int colour, int depth, int stencil) {
        if ((what & CLEARS_COLOUR) != 0) {
            places.colours[index] = merged(places.colours[index], colour, colourBits);
        }
        if ((what & CLEARS_DEPTH) != 0 && (depthTest == OFF || depthWritten)) {
            places.depths[index] = depth;
        }
        if ((what & CLEARS_STENCIL) != 0) {
            int bits = front.test == OFF ? BYTE_MOST : front.written;
            places.stencils[index] = merged(places.stencils[index], stencil, bits);
        }
    }

    private StencilRule ruleOf(int side) {
        return side == 0 ? front : back;
    }

    private static boolean isWithin(int number, int least, int most) {
        return number >= least && number <= most;
    }

    private static boolean isByte(int number) {
        return isWithin(number, 0, BYTE_MOST);
    }

    private static boolean isDepth(int number) {
        return isWithin(number, 0, DEPTH_MOST);
    }

    private static boolean isSide(int number) {
        return isWithin(number, 0, 1);
    }

    private static boolean isDeed(int number) {
        return isWithin(number, 0, LAST_DEED);
    }

    private static boolean isFactor(int number) {
        return isWithin(number, 0, LAST_FACTOR);
    }

    private static boolean compares(int test, int a, int b) {
        switch (test) {
            case 0: return false;
            case 1: return a < b;
            case 2: return a == b;
            case 3: return a <= b;
            case 4: return a > b;
            case 5: return a != b;
            case 6: return a >= b;
            default: return true;
        }
    }

    private static int merged(int old, int fresh, int bits) {
        return (old & ~bits) | (fresh & bits);
    }

    /** The places, row by row; the rows may be longer than the frame, so that they serve again. */
    private static final class Frame {
        private static final int SIDE_MOST = 64;
        private static final int PLACES_MOST = SIDE_MOST * SIDE_MOST;
        private static final int START_MOST = 1023;

        private final int room;
        private final int[] colours;
        private final int[] depths;
        private final int[] stencils;
        private int x0;
        private int y0;
        private int wide;
        private int high;
        private int count;

        private Frame(int most) {
            room = Math.max(1, Math.min(most, PLACES_MOST));
            colours = new int[room];
            depths = new int[room];
            stencils = new int[room];
            x0 = 0;
            y0 = 0;
            wide = 1;
            high = 1;
            count = 1;
        }

        private void begin(int newX0, int newY0, int newWide, int newHigh) {
            x0 = newX0;
            y0 = newY0;
            wide = newWide;
            high = newHigh;
            count = newWide * newHigh;
            for (int i = 0; i < count; i++) {
                colours[i] = 0;
                depths[i] = 0;
                stencils[i] = 0;
            }
        }

        private boolean has(int x, int y) {
            return x >= x0 && x < x0 + wide && y >= y0 && y < y0 + high;
        }

        private int indexOf(int x, int y) {
            return (y - y0) * wide + (x - x0);
        }

        private int[] rowsOf(int what) {
            if (what == COLOUR) {
                return colours;
            }
            return what == DEPTH ? depths : stencils;
        }
    }

    /** A rectangle of open places; x1 below x0, as at the beginning, leaves all of them open. */
    private static final class Scissors {
        private int x0;
        private int y0;
        private int x1;
        private int y1;

        private Scissors() {
            x0 = 0;
            y0 = 0;
            x1 = -1;
            y1 = 0;
        }

        private boolean hold(int x, int y) {
            return x1 < x0 || (x >= x0 && x < x1 && y >= y0 && y < y1);
        }
    }

    /** What one side does with the stencil of a place. */
    private static final class StencilRule {
        private int test;
        private int value;
        private int mask;
        private int written;
        private int fails;
        private int depthFails;
        private int holds;

        private StencilRule() {
            test = OFF;
        }

        private boolean allows(int stencil) {
            return test == OFF || compares(test, value & mask, stencil & mask);
        }

        private int changed(int stencil, int deed) {
            return test == OFF ? stencil : merged(stencil, afterDeed(stencil, deed), written);
        }

        private int afterDeed(int stencil, int deed) {
            switch (deed) {
                case 1: return 0;
                case 2: return value;
                case 3: return Math.min(stencil + 1, BYTE_MOST);
                case 4: return Math.max(stencil - 1, 0);
                case 5: return ~stencil & BYTE_MOST;
                case 6: return (stencil + 1) & BYTE_MOST;
                case 7: return (stencil - 1) & BYTE_MOST;
                default: return stencil;
            }
        }
    }

    /** Colours as one number each: r in the lowest byte, then g and b, a in the highest. */
    private static final class Colour {
        private static final int A_SHIFT = 24;
        private static final int FIXED_ONE = 65536;

        private static int packed(int r, int g, int b, int a) {
            return (a << A_SHIFT) | (b << 16) | (g << 8) | r;
        }

        private static int bitsOf(int channels) {
            int bits = 0;
            for (int i = 0; i < 4; i++) {
                if ((channels & 1 << i) != 0) {
                    bits |= BYTE_MOST << 8 * i;
                }
            }
            return bits;
        }

        private static int channel(int colour, int shift) {
            return (colour >>> shift) & BYTE_MOST;
        }

        private static int ofFixed(int r, int g, int b, int a) {
            return packed(byteOf(r), byteOf(g), byteOf(b), byteOf(a));
        }

        private static int byteOf(int fixed) {
            int cut = Math.max(0, Math.min(fixed, FIXED_ONE));
            return (BYTE_MOST * cut + FIXED_ONE / 2) / FIXED_ONE;
        }

        private static int byLogic(int number, int s, int d) {
            int bits = 0;
            if ((number & 1) != 0) {
                bits |= ~s & ~d;
            }
            if ((number & 2) != 0) {
                bits |= ~s & d;
            }
            if ((number & 4) != 0) {
                bits |= s & ~d;
            }
            if ((number & 8) != 0) {
                bits |= s & d;
            }
            return bits;
        }
    }

    /** Four factors, two equations and the constant colour; off while the equation is OFF. */
    private static final class Blending {
        private int source;
        private int place;
        private int sourceA;
        private int placeA;
        private int equation;
        private int equationA;
        private int constant;

        private Blending() {
            equation = OFF;
        }

        private int blended(int drawn, int held) {
            int colour = 0;
            for (int shift = 0; shift <= Colour.A_SHIFT; shift += 8) {
                colour |= blendedChannel(drawn, held, shift) << shift;
            }
            return colour;
        }

        private int blendedChannel(int drawn, int held, int shift) {
            boolean isA = shift == Colour.A_SHIFT;
            int s = Colour.channel(drawn, shift);
            int d = Colour.channel(held, shift);
            int weightedS = s * factor(isA ? sourceA : source, drawn, held, shift);
            int weightedD = d * factor(isA ? placeA : place, drawn, held, shift);
            switch (isA ? equationA : equation) {
                case 0: return byteOfWeighted(weightedS + weightedD);
                case 1: return byteOfWeighted(weightedS - weightedD);
                case 2: return byteOfWeighted(weightedD - weightedS);
                case 3: return Math.min(s, d);
                default: return Math.max(s, d);
            }
        }

        private int factor(int number, int drawn, int held, int shift) {
            int sa = Colour.channel(drawn, Colour.A_SHIFT);
            int da = Colour.channel(held, Colour.A_SHIFT);
            switch (number) {
                case 1: return BYTE_MOST;
                case 2: return Colour.channel(drawn, shift);
                case 3: return BYTE_MOST - Colour.channel(drawn, shift);
                case 4: return Colour.channel(held, shift);
                case 5: return BYTE_MOST - Colour.channel(held, shift);
                case 6: return sa;
                case 7: return BYTE_MOST - sa;
                case 8: return da;
                case 9: return BYTE_MOST - da;
                case 10: return Colour.channel(constant, shift);
                case 11: return BYTE_MOST - Colour.channel(constant, shift);
                case 12: return Colour.channel(constant, Colour.A_SHIFT);
                case 13: return BYTE_MOST - Colour.channel(constant, Colour.A_SHIFT);
                case 14: return shift == Colour.A_SHIFT ? BYTE_MOST : Math.min(sa, BYTE_MOST - da);
                default: return 0;
            }
        }

        // All below 0 is cut to 0, so what is rounded is never below it; 255 is odd: no halves.
        private static int byteOfWeighted(int weighted) {
            int nearest = (Math.max(weighted, 0) + BYTE_MOST / 2) / BYTE_MOST;
            return Math.min(nearest, BYTE_MOST);
        }
    }
}
