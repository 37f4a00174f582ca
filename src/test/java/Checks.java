/** Counts and prints the calls whose answer is not the one that is due. */
final class Checks {
    /** A call that may throw. */
    interface Call {
        void run();
    }

    private int wrong;
    private String sentence = "";

    /** The document's words that the next calls hold to; they are printed with a wrong answer. */
    void sentence(String words) {
        sentence = "'" + words + "': ";
    }

    private void tell(String what) {
        wrong++;
        System.out.println(sentence + what);
    }

    void due(String call, long got, long want) {
        if (got != want) {
            tell(call + " answered " + got + ", due is " + want);
        }
    }

    void dueText(String call, String got, String want) {
        if (!got.equals(want)) {
            tell(call + " answered " + got + ", due is " + want);
        }
    }

    /** The very class is asked for, so that nothing the machine throws below it passes. */
    void dueThrow(String call, Class<? extends RuntimeException> want, Call what) {
        String got = "nothing";
        try {
            what.run();
        } catch (RuntimeException e) {
            got = e.getClass().getName();
        }
        if (!got.equals(want.getName())) {
            tell(call + " threw " + got + ", due is " + want.getName());
        }
    }

    void dueIllegal(String call, Call what) {
        dueThrow(call, IllegalArgumentException.class, what);
    }

    void place(String when, PlaceTests p, int x, int y, int[] want) {
        for (int what = 0; what < 3; what++) {
            due(when + ": at(" + x + ", " + y + ", " + what + ")", p.at(x, y, what), want[what]);
        }
    }

    void outside(String when, PlaceTests p, int x, int y) {
        for (int what = 0; what < 3; what++) {
            int asked = what;
            dueThrow(when + ": at(" + x + ", " + y + ", " + what + ")",
                    IndexOutOfBoundsException.class, () -> p.at(x, y, asked));
        }
    }

    void end() {
        if (wrong != 0) {
            System.out.println(wrong + " answers are not as due");
            System.exit(1);
        }
    }

    static int colour(int r, int g, int b, int a) {
        return a << 24 | b << 16 | g << 8 | r;
    }

    /** A fixed number whose byte is the one that is asked for. */
    static int fixed(int value) {
        return (value * 65536 + 127) / 255;
    }

    /** Draws the place with the colour's bytes, at depth 0, in front. */
    static int drawBytes(PlaceTests p, int x, int y, int colour) {
        return p.draw(x, y, 0, 0, fixed(colour & 255), fixed(colour >>> 8 & 255),
                fixed(colour >>> 16 & 255), fixed(colour >>> 24));
    }
}
