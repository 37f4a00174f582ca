/**
 * The document's first words and its promises 1 to 14, a function for each, in their order; every
 * answer that is due is written out.
 */
public final class PromisesTest {
    private static final String OUTSIDE = " -> throws.IndexOutOfBoundsException";
    private static final String REFUSED = " -> throws.IllegalArgumentException";
    private static final String WHITE = "65536, 65536, 65536, 65536)";
    private static final String BLACK = "0, 0, 0, 0)";
    private static final int MIN = Integer.MIN_VALUE;
    private static final int MAX = Integer.MAX_VALUE;
    private static final Checks CHECKS = new Checks();

    public static void main(String[] args) {
        calls();
        newObject();
        frame();
        scissors();
        depth();
        stencil();
        stencilRefuses();
        blend();
        constant();
        logic();
        mask();
        clear();
        draw();
        at();
        drawn();
        sum();
        CHECKS.end();
    }

    private static void run(String... rows) {
        Run.all(CHECKS, rows);
    }

    private static void calls() {
        CHECKS.sentence("An object is used for at most 512 calls after it has been made.");
        Run run = new Run(CHECKS);
        for (int i = 1; i <= 255; i++) {
            run.row("draw(0, 0, 0, 0, " + BLACK + " -> 3");
            run.row("drawn(3) -> " + i);
        }
        run.row("clear(7, 5, 6, 7) -> 1");
        run.row("at(0, 0, 0) -> 5");
    }

    private static void newObject() {
        CHECKS.sentence("1: A frame of one place at (0, 0), all 0; all rules off, all places open,"
                + " the colour mask 15.");
        run("at(0, 0, 0) -> 0", "at(0, 0, 1) -> 0", "at(0, 0, 2) -> 0",
                "at(1, 0, 0)" + OUTSIDE, "at(0, 1, 0)" + OUTSIDE,
                "at(-1, 0, 0)" + OUTSIDE, "at(0, -1, 0)" + OUTSIDE,
                "drawn(0) -> 0", "drawn(1) -> 0", "drawn(2) -> 0", "drawn(3) -> 0",
                "draw(0, 0, 16777215, 0, " + WHITE + " -> 3",
                "at(0, 0, 0) -> -1", "at(0, 0, 1) -> 0", "at(0, 0, 2) -> 0",
                "draw(0, 0, 5, 1, 257, 514, 771, 1028) -> 3",
                "at(0, 0, 0) -> 0x04030201", "at(0, 0, 1) -> 0", "at(0, 0, 2) -> 0",
                "clear(7, -1, 16777215, 255) -> 1",
                "at(0, 0, 0) -> -1", "at(0, 0, 1) -> 16777215", "at(0, 0, 2) -> 255",
                "sum(0) -> -1", "sum(1) -> 16777215", "sum(2) -> 255");
        run("frame(0, 0, 64, 64)", "clear(0, 0, 0, 0) -> 4096",
                "frame(1023, 1023, 64, 64)", "clear(0, 0, 0, 0) -> 4096");
    }

    private static void frame() {
        CHECKS.sentence("2: A new frame, all 0; rules and scissors stay. IllegalArgumentException"
                + " if wide or high is not 1 .. 64, or x0 or y0 not 0 .. 1023.");
        run("clear(7, 1, 2, 3) -> 1", "frame(0, 0, 1, 1)",
                "at(0, 0, 0) -> 0", "at(0, 0, 1) -> 0", "at(0, 0, 2) -> 0",
                "frame(0, 0, 64, 64)", "clear(7, 1, 2, 3) -> 4096", "frame(1023, 1023, 64, 64)",
                "sum(0) -> 0", "sum(1) -> 0", "sum(2) -> 0", "at(1086, 1086, 0) -> 0",
                "clear(7, 1, 2, 3) -> 4096", "frame(4, 5, 2, 1)",
                "sum(0) -> 0", "sum(1) -> 0", "sum(2) -> 0", "at(5, 5, 0) -> 0",
                "at(6, 5, 0)" + OUTSIDE, "at(4, 6, 0)" + OUTSIDE, "at(1023, 1023, 0)" + OUTSIDE);
        run("scissors(1, 0, 2, 1)", "depth(4, true)", "stencil(0, 7, 9, 255, 255, 0, 3, 2)",
                "stencil(1, 0, 8, 255, 255, 2, 0, 0)", "constant(0x44332211)",
                "blend(10, 0, 10, 0, 0, 0)", "mask(7)", "frame(0, 0, 2, 2)",
                "draw(0, 0, 5, 0, " + WHITE + " -> 0", "draw(1, 0, 0, 0, " + WHITE + " -> 2",
                "at(1, 0, 2) -> 1", "draw(1, 0, 5, 1, " + WHITE + " -> 1", "at(1, 0, 2) -> 8",
                "draw(1, 0, 5, 0, " + WHITE + " -> 3", "at(1, 0, 2) -> 9", "at(1, 0, 1) -> 5",
                "at(1, 0, 0) -> 0x00332211",
                "logic(15)", "frame(1, 0, 1, 1)", "draw(1, 0, 5, 0, " + BLACK + " -> 3",
                "at(1, 0, 0) -> 0x00FFFFFF", "drawn(3) -> 2");
        for (int wrong : new int[] {MIN, -1, 0, 65, MAX}) {
            run("frame(0, 0, " + wrong + ", 1)" + REFUSED,
                    "frame(0, 0, 1, " + wrong + ")" + REFUSED);
        }
        for (int wrong : new int[] {MIN, -1, 1024, MAX}) {
            run("frame(" + wrong + ", 0, 1, 1)" + REFUSED,
                    "frame(0, " + wrong + ", 1, 1)" + REFUSED);
        }
    }

    private static void scissors() {
        CHECKS.sentence("3: The scissors; all places are open if x1 is below x0.");
        run("frame(0, 0, 4, 3)",
                "scissors(1, 1, 3, 2)", "clear(0, 0, 0, 0) -> 2",
                "scissors(1, 1, 2, 3)", "clear(0, 0, 0, 0) -> 2",
                "scissors(0, 0, 4, 3)", "clear(0, 0, 0, 0) -> 12",
                "scissors(1, 1, 1, 3)", "clear(0, 0, 0, 0) -> 0",
                "scissors(1, 1, 0, 3)", "clear(0, 0, 0, 0) -> 12",
                "scissors(1, 1, 0, 0)", "clear(0, 0, 0, 0) -> 12",
                "scissors(1, 2, 3, 1)", "clear(0, 0, 0, 0) -> 0",
                "scissors(-2147483648, -2147483648, 2147483647, 2147483647)",
                "clear(0, 0, 0, 0) -> 12",
                "scissors(2147483647, 0, -2147483648, 0)", "clear(0, 0, 0, 0) -> 12",
                "scissors(-5, -5, 1, 1)", "clear(0, 0, 0, 0) -> 1");
    }

    private static void depth() {
        CHECKS.sentence("4: The rule for the depth, or (test -1) none. IllegalArgumentException for"
                + " another test.");
        run("depth(4, true)", "draw(0, 0, 0, 0, " + BLACK + " -> 2",
                "draw(0, 0, 7, 0, " + BLACK + " -> 3", "at(0, 0, 1) -> 7",
                "depth(7, false)", "draw(0, 0, 3, 0, " + BLACK + " -> 3", "at(0, 0, 1) -> 7",
                "depth(0, true)", "draw(0, 0, 3, 0, " + BLACK + " -> 2", "at(0, 0, 1) -> 7",
                "depth(-1, true)", "draw(0, 0, 3, 0, " + BLACK + " -> 3", "at(0, 0, 1) -> 7");
        for (int wrong : new int[] {MIN, -2, 8, MAX}) {
            run("depth(" + wrong + ", true)" + REFUSED, "depth(" + wrong + ", false)" + REFUSED);
        }
    }

    private static void stencil() {
        CHECKS.sentence("5: The rule for the stencil of a side, or (test -1) none. ..");
        run("stencil(0, 2, 0, 255, 255, 6, 0, 2)", "stencil(1, 2, 0, 255, 255, 0, 0, 5)",
                "draw(0, 0, 0, 1, " + BLACK + " -> 3", "at(0, 0, 2) -> 255",
                "draw(0, 0, 0, 1, " + BLACK + " -> 1", "at(0, 0, 2) -> 255",
                "draw(0, 0, 0, 0, " + BLACK + " -> 1", "at(0, 0, 2) -> 0",
                "stencil(0, 3, 40, 15, 240, 0, 0, 2)",
                "draw(0, 0, 0, 0, " + BLACK + " -> 1", "at(0, 0, 2) -> 0",
                "stencil(0, 6, 40, 15, 240, 0, 0, 2)",
                "draw(0, 0, 0, 0, " + BLACK + " -> 3", "at(0, 0, 2) -> 32",
                "stencil(0, -1, 0, 0, 0, 0, 0, 0)",
                "draw(0, 0, 0, 0, " + BLACK + " -> 3", "at(0, 0, 2) -> 32",
                "draw(0, 0, 0, 1, " + BLACK + " -> 1",
                "stencil(1, -1, 0, 0, 0, 0, 0, 0)",
                "draw(0, 0, 0, 1, " + BLACK + " -> 3", "at(0, 0, 2) -> 32");
    }

    private static void stencilRefuses() {
        CHECKS.sentence("5: .. IllegalArgumentException for another side, test or deed, or a value"
                + " or mask that isn't a byte (if test is -1 nothing but the side is looked at).");
        for (int wrong : new int[] {MIN, -2, -1, 256, MAX}) {
            run("stencil(" + wrong + ", 7, 0, 0, 0, 0, 0, 0)" + REFUSED,
                    "stencil(" + wrong + ", -1, 0, 0, 0, 0, 0, 0)" + REFUSED,
                    "stencil(0, 7, " + wrong + ", 0, 0, 0, 0, 0)" + REFUSED,
                    "stencil(1, 7, 0, " + wrong + ", 0, 0, 0, 0)" + REFUSED,
                    "stencil(0, 7, 0, 0, " + wrong + ", 0, 0, 0)" + REFUSED,
                    "stencil(1, 7, 0, 0, 0, " + wrong + ", 0, 0)" + REFUSED,
                    "stencil(0, 7, 0, 0, 0, 0, " + wrong + ", 0)" + REFUSED,
                    "stencil(1, 7, 0, 0, 0, 0, 0, " + wrong + ")" + REFUSED,
                    "stencil(0, -1, " + wrong + ", 0, 0, 0, 0, 0)",
                    "stencil(1, -1, 0, " + wrong + ", 0, 0, 0, 0)",
                    "stencil(0, -1, 0, 0, " + wrong + ", 0, 0, 0)",
                    "stencil(1, -1, 0, 0, 0, " + wrong + ", 0, 0)",
                    "stencil(0, -1, 0, 0, 0, 0, " + wrong + ", 0)",
                    "stencil(1, -1, 0, 0, 0, 0, 0, " + wrong + ")");
        }
        for (int wrong : new int[] {MIN, -2, 8, MAX}) {
            run("stencil(0, " + wrong + ", 0, 0, 0, 0, 0, 0)" + REFUSED,
                    "stencil(1, " + wrong + ", 0, 0, 0, 0, 0, 0)" + REFUSED,
                    "stencil(0, 7, 0, 0, 0, " + wrong + ", 0, 0)" + REFUSED,
                    "stencil(0, 7, 0, 0, 0, 0, " + wrong + ", 0)" + REFUSED,
                    "stencil(0, 7, 0, 0, 0, 0, 0, " + wrong + ")" + REFUSED);
        }
        run("stencil(2, 7, 0, 0, 0, 0, 0, 0)" + REFUSED,
                "stencil(2, -1, 0, 0, 0, 0, 0, 0)" + REFUSED,
                "stencil(0, 0, 0, 0, 0, 0, 0, 0)", "stencil(1, 7, 255, 255, 255, 7, 7, 7)");
    }

    private static void blend() {
        CHECKS.sentence("6: Blending with four factors and two equations, or (equation -1) none."
                + " IllegalArgumentException for others (if equation is -1 nothing is looked at).");
        run("clear(1, 0x281E140A, 0, 0) -> 1", "blend(1, 1, 0, 1, 0, 4)",
                "draw(0, 0, 0, 0, 257, 514, 771, 1028) -> 3", "at(0, 0, 0) -> 0x2821160B",
                "blend(0, 1, 1, 1, 2, 1)",
                "draw(0, 0, 0, 0, 257, 514, 771, 16384) -> 3", "at(0, 0, 0) -> 0x1821160B",
                "blend(0, 0, 0, 0, -1, 0)",
                "draw(0, 0, 0, 0, 257, 514, 771, 1028) -> 3", "at(0, 0, 0) -> 0x04030201");
        for (int wrong : new int[] {MIN, -2, 15, MAX}) {
            run("blend(" + wrong + ", 0, 0, 0, 0, 0)" + REFUSED,
                    "blend(0, " + wrong + ", 0, 0, 0, 0)" + REFUSED,
                    "blend(0, 0, " + wrong + ", 0, 0, 0)" + REFUSED,
                    "blend(0, 0, 0, " + wrong + ", 0, 0)" + REFUSED,
                    "blend(0, 0, 0, 0, " + wrong + ", 0)" + REFUSED,
                    "blend(0, 0, 0, 0, 0, " + wrong + ")" + REFUSED,
                    "blend(" + wrong + ", " + wrong + ", " + wrong + ", " + wrong + ", -1, " + wrong
                            + ")");
        }
        run("blend(-1, 0, 0, 0, 0, 0)" + REFUSED, "blend(0, -1, 0, 0, 0, 0)" + REFUSED,
                "blend(0, 0, -1, 0, 0, 0)" + REFUSED, "blend(0, 0, 0, -1, 0, 0)" + REFUSED,
                "blend(0, 0, 0, 0, 0, -1)" + REFUSED, "blend(0, 0, 0, 0, 5, 0)" + REFUSED,
                "blend(0, 0, 0, 0, 0, 5)" + REFUSED, "blend(14, 14, 14, 14, 4, 4)");
    }

    private static void constant() {
        CHECKS.sentence("7: The constant colour.");
        run("blend(10, 0, 10, 0, 0, 0)", "constant(0x04030201)",
                "draw(0, 0, 0, 0, " + WHITE + " -> 3", "at(0, 0, 0) -> 0x04030201",
                "constant(-1)", "draw(0, 0, 0, 0, " + WHITE + " -> 3", "at(0, 0, 0) -> -1",
                "constant(-2147483648)",
                "draw(0, 0, 0, 0, " + WHITE + " -> 3", "at(0, 0, 0) -> -2147483648",
                "constant(2147483647)",
                "draw(0, 0, 0, 0, " + WHITE + " -> 3", "at(0, 0, 0) -> 2147483647");
    }

    private static void logic() {
        CHECKS.sentence("8: Logic 0 .. 15, or (-1) none. IllegalArgumentException for another"
                + " number.");
        run("logic(15)", "draw(0, 0, 0, 0, " + BLACK + " -> 3", "at(0, 0, 0) -> -1",
                "logic(0)", "draw(0, 0, 0, 0, " + WHITE + " -> 3", "at(0, 0, 0) -> 0",
                "logic(2)", "draw(0, 0, 0, 0, " + WHITE + " -> 3", "at(0, 0, 0) -> 0",
                "logic(4)", "draw(0, 0, 0, 0, 257, 514, 771, 1028) -> 3",
                "at(0, 0, 0) -> 0x04030201",
                "logic(-1)", "draw(0, 0, 0, 0, " + WHITE + " -> 3", "at(0, 0, 0) -> -1",
                "logic(-2)" + REFUSED, "logic(16)" + REFUSED, "logic(-2147483648)" + REFUSED,
                "logic(2147483647)" + REFUSED);
    }

    private static void mask() {
        CHECKS.sentence("9: The colour mask. IllegalArgumentException if it is not 0 .. 15.");
        run("mask(0)", "draw(0, 0, 0, 0, " + WHITE + " -> 3", "at(0, 0, 0) -> 0",
                "mask(1)", "draw(0, 0, 0, 0, " + WHITE + " -> 3", "at(0, 0, 0) -> 0x000000FF",
                "mask(2)", "draw(0, 0, 0, 0, " + WHITE + " -> 3", "at(0, 0, 0) -> 0x0000FFFF",
                "mask(4)", "draw(0, 0, 0, 0, " + WHITE + " -> 3", "at(0, 0, 0) -> 0x00FFFFFF",
                "mask(8)", "draw(0, 0, 0, 0, " + WHITE + " -> 3", "at(0, 0, 0) -> -1",
                "mask(10)", "draw(0, 0, 0, 0, " + BLACK + " -> 3", "at(0, 0, 0) -> 0x00FF00FF",
                "mask(15)", "draw(0, 0, 0, 0, " + BLACK + " -> 3", "at(0, 0, 0) -> 0",
                "mask(-1)" + REFUSED, "mask(16)" + REFUSED, "mask(-2147483648)" + REFUSED,
                "mask(2147483647)" + REFUSED);
    }

    private static void clear() {
        CHECKS.sentence("10: Clears what is asked for (a sum of 1 colour, 2 depth, 4 stencil): how"
                + " many places were open. IllegalArgumentException if what is not 0 .. 7, depth"
                + " not 0 .. 2^24 - 1, or stencil no byte.");
        run("frame(2, 3, 3, 2)", "clear(1, -1, 8, 9) -> 6",
                "at(4, 4, 0) -> -1", "at(4, 4, 1) -> 0", "at(4, 4, 2) -> 0",
                "scissors(3, 0, 100, 100)", "clear(2, 7, 16777215, 9) -> 4",
                "at(4, 4, 0) -> -1", "at(4, 4, 1) -> 16777215", "at(4, 4, 2) -> 0",
                "at(2, 4, 1) -> 0",
                "scissors(3, 4, 100, 100)", "clear(4, 7, 8, 255) -> 2",
                "at(4, 4, 0) -> -1", "at(4, 4, 1) -> 16777215", "at(4, 4, 2) -> 255",
                "at(4, 3, 2) -> 0",
                "scissors(3, 4, 3, 100)", "clear(7, 7, 8, 9) -> 0", "at(4, 4, 0) -> -1",
                "scissors(0, 0, -1, 0)", "clear(0, 7, 8, 9) -> 6", "at(4, 4, 0) -> -1",
                "clear(7, 0, 0, 0) -> 6", "sum(0) -> 0", "sum(1) -> 0", "sum(2) -> 0",
                "drawn(0) -> 0", "drawn(3) -> 0");
        for (int wrong : new int[] {MIN, -1, 16777216, MAX}) {
            run("clear(" + wrong + ", 0, 0, 0)" + REFUSED,
                    "clear(7, 0, " + wrong + ", 0)" + REFUSED,
                    "clear(0, 0, " + wrong + ", 0)" + REFUSED,
                    "clear(7, 0, 0, " + wrong + ")" + REFUSED,
                    "clear(0, 0, 0, " + wrong + ")" + REFUSED);
        }
        run("clear(8, 0, 0, 0)" + REFUSED, "clear(7, 0, 0, 256)" + REFUSED);
    }

    private static void draw() {
        CHECKS.sentence("11: Draws a place: 0, 1, 2 or 3. IllegalArgumentException if depth is not"
                + " 0 .. 2^24 - 1, or side not 0 or 1.");
        run("frame(2, 3, 2, 1)", "depth(4, true)", "stencil(1, 0, 9, 255, 255, 2, 0, 0)",
                "draw(1, 3, 5, 0, " + WHITE + " -> 0", "draw(4, 3, 5, 0, " + WHITE + " -> 0",
                "draw(2, 2, 5, 0, " + WHITE + " -> 0", "draw(2, 4, 5, 0, " + WHITE + " -> 0",
                "draw(-2147483648, 2147483647, 5, 1, " + WHITE + " -> 0",
                "draw(3, 3, 5, 1, " + WHITE + " -> 1",
                "at(3, 3, 0) -> 0", "at(3, 3, 1) -> 0", "at(3, 3, 2) -> 9",
                "draw(3, 3, 0, 0, " + WHITE + " -> 2",
                "at(3, 3, 0) -> 0", "at(3, 3, 1) -> 0", "at(3, 3, 2) -> 9",
                "draw(3, 3, 16777215, 0, " + WHITE + " -> 3",
                "at(3, 3, 0) -> -1", "at(3, 3, 1) -> 16777215", "at(3, 3, 2) -> 9",
                "at(2, 3, 0) -> 0", "at(2, 3, 1) -> 0", "at(2, 3, 2) -> 0");
        for (int wrong : new int[] {MIN, -1, 16777216, MAX}) {
            run("draw(0, 0, " + wrong + ", 0, " + BLACK + REFUSED,
                    "draw(5, 5, " + wrong + ", 1, " + BLACK + REFUSED,
                    "draw(0, 0, 0, " + wrong + ", " + BLACK + REFUSED,
                    "draw(5, 5, 0, " + wrong + ", " + BLACK + REFUSED);
        }
        run("draw(0, 0, 0, 2, " + BLACK + REFUSED);
    }

    private static void at() {
        CHECKS.sentence("12: The colour (what = 0), depth (1), stencil (2) of a place."
                + " IndexOutOfBoundsException if it is not in the frame; IllegalArgumentException"
                + " for another what (this first).");
        run("frame(2, 3, 2, 2)", "clear(7, -5, 6, 7) -> 4", "scissors(3, 4, 4, 5)",
                "clear(7, 8, 9, 10) -> 1",
                "at(2, 3, 0) -> -5", "at(2, 3, 1) -> 6", "at(2, 3, 2) -> 7",
                "at(3, 4, 0) -> 8", "at(3, 4, 1) -> 9", "at(3, 4, 2) -> 10",
                "at(1, 3, 0)" + OUTSIDE, "at(4, 3, 1)" + OUTSIDE, "at(2, 2, 2)" + OUTSIDE,
                "at(2, 5, 0)" + OUTSIDE, "at(-2147483648, 3, 0)" + OUTSIDE,
                "at(2147483647, 3, 0)" + OUTSIDE, "at(2, -2147483648, 0)" + OUTSIDE,
                "at(2, 2147483647, 0)" + OUTSIDE,
                "at(2, 3, -1)" + REFUSED, "at(2, 3, 3)" + REFUSED, "at(0, 0, -1)" + REFUSED,
                "at(0, 0, 3)" + REFUSED, "at(0, 0, -2147483648)" + REFUSED,
                "at(2, 3, 2147483647)" + REFUSED);
    }

    private static void drawn() {
        CHECKS.sentence("13: How many places were drawn, since the beginning, with the answer"
                + " 0 .. 3. IllegalArgumentException for another one.");
        run("draw(1, 0, 0, 0, " + BLACK + " -> 0",
                "depth(1, true)", "draw(0, 0, 0, 0, " + BLACK + " -> 2",
                "draw(0, 0, 0, 0, " + BLACK + " -> 2", "draw(0, 0, 0, 0, " + BLACK + " -> 2",
                "stencil(1, 0, 0, 0, 0, 0, 0, 0)", "draw(0, 0, 0, 1, " + BLACK + " -> 1",
                "draw(0, 0, 0, 1, " + BLACK + " -> 1",
                "drawn(0) -> 1", "drawn(1) -> 2", "drawn(2) -> 3", "drawn(3) -> 0",
                "frame(0, 0, 2, 2)", "depth(-1, true)", "draw(1, 0, 0, 0, " + BLACK + " -> 3",
                "clear(7, 0, 0, 0) -> 4",
                "drawn(0) -> 1", "drawn(1) -> 2", "drawn(2) -> 3", "drawn(3) -> 1",
                "drawn(-1)" + REFUSED, "drawn(4)" + REFUSED, "drawn(-2147483648)" + REFUSED,
                "drawn(2147483647)" + REFUSED);
    }

    private static void sum() {
        CHECKS.sentence("14: Of all places, row by row, beginning with 0: 31 times what there was"
                + " and the colour (what = 0), depth (1) or stencil (2), wrapping."
                + " IllegalArgumentException for another what.");
        run("frame(5, 5, 2, 2)",
                "scissors(5, 5, 6, 6)", "clear(7, 1, 10, 100) -> 1",
                "scissors(6, 5, 7, 6)", "clear(7, 2, 20, 200) -> 1",
                "scissors(5, 6, 6, 7)", "clear(7, 3, 30, 50) -> 1",
                "scissors(6, 6, 7, 7)", "clear(7, 4, 40, 150) -> 1",
                // 1 * 29791 + 2 * 961 + 3 * 31 + 4
                "sum(0) -> 31810", "sum(1) -> 318100",
                // 100 * 29791 + 200 * 961 + 50 * 31 + 150
                "sum(2) -> 3173000",
                "sum(-1)" + REFUSED, "sum(3)" + REFUSED, "sum(-2147483648)" + REFUSED,
                "sum(2147483647)" + REFUSED);
        run("frame(0, 0, 2, 1)", "clear(3, 2147483647, 16777215, 0) -> 2",
                "sum(0) -> -32", "sum(1) -> 536870880", "sum(2) -> 0",
                "frame(0, 0, 1, 3)", "clear(3, -1, 16777215, 0) -> 3",
                // -1 * (961 + 31 + 1), and 16777215 * 993 - 4 * 2^32
                "sum(0) -> -993", "sum(1) -> -520094689");
    }
}
