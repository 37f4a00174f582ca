/** The boundaries that the document names for drawing, clearing, counting, and for 512 calls. */
public final class EdgeDrawTest {
    private static final int MIN = Integer.MIN_VALUE;
    private static final int MAX = Integer.MAX_VALUE;
    private static final int FAR = (1 << 24) - 1;
    private static final int ONE = 65536;
    private static final Checks CHECKS = new Checks();

    public static void main(String[] args) {
        stencilFails();
        depthFails();
        bothHold();
        withoutBlendingOrLogic();
        rightDraws();
        wrongDepths();
        wrongSides();
        answersAreCounted();
        wrongAnswers();
        clearsWhatIsAskedFor();
        wrongWhats();
        clearsWithAnyColour();
        clearsDepthByItsRule();
        wrongClearDepths();
        clearsStencilByTheFront();
        wrongClearStencils();
        openPlacesAreCounted();
        clearingIsNoDrawing();
        manyCalls();
        manyFrames();
        CHECKS.end();
    }

    private static PlaceTests held() {
        PlaceTests p = new PlaceTests();
        p.clear(7, 0x01020304, 1000, 100);
        return p;
    }

    private static void stencilFails() {
        CHECKS.sentence("Then the stencil's test: if it fails, its deed (1)");
        for (int side = 0; side < 2; side++) {
            for (int depthTest = -1; depthTest < 8; depthTest++) {
                PlaceTests p = held();
                p.depth(depthTest, true);
                p.stencil(side, 0, 7, 255, 255, 3, 1, 2);
                CHECKS.due("draw", p.draw(0, 0, 999, side, ONE, ONE, ONE, ONE), 1);
                CHECKS.place("its deed alone", p, 0, 0, new int[] {0x01020304, 1000, 101});
            }
        }
    }

    private static void depthFails() {
        CHECKS.sentence("Then the depth's: if it fails, the deed for that (2)");
        for (int side = 0; side < 2; side++) {
            PlaceTests p = held();
            p.depth(4, true);
            CHECKS.due("draw, no stencil's rule", p.draw(0, 0, 1000, side, ONE, ONE, ONE, ONE), 2);
            CHECKS.place("nothing", p, 0, 0, new int[] {0x01020304, 1000, 100});
            p.stencil(side, 7, 7, 255, 255, 1, 3, 2);
            CHECKS.due("draw", p.draw(0, 0, 1000, side, ONE, ONE, ONE, ONE), 2);
            CHECKS.place("the deed alone", p, 0, 0, new int[] {0x01020304, 1000, 101});
        }
    }

    private static void bothHold() {
        CHECKS.sentence("Otherwise the deed for both, the depth is written (if it is to be), and"
                + " the colour (3)");
        for (int side = 0; side < 2; side++) {
            PlaceTests p = held();
            p.depth(4, true);
            p.stencil(side, 7, 7, 255, 255, 1, 2, 3);
            CHECKS.due("draw", p.draw(0, 0, 1001, side, ONE, 0, 0, ONE), 3);
            CHECKS.place("all of it", p, 0, 0, new int[] {0xFF0000FF, 1001, 101});
            p.depth(4, false);
            CHECKS.due("draw", p.draw(0, 0, 1002, side, 0, ONE, 0, ONE), 3);
            CHECKS.place("but the depth", p, 0, 0, new int[] {0xFF00FF00, 1001, 102});
            p.mask(0);
            p.depth(4, true);
            CHECKS.due("draw", p.draw(0, 0, 1003, side, 0, 0, ONE, ONE), 3);
            CHECKS.place("but the colour", p, 0, 0, new int[] {0xFF00FF00, 1003, 103});
        }
    }

    private static void withoutBlendingOrLogic() {
        CHECKS.sentence("the new channels are as BLENDING or LOGIC say, or s without them");
        PlaceTests p = new PlaceTests();
        for (int held : new int[] {0, -1, MIN, MAX}) {
            for (int drawn : new int[] {0, -1, MIN, MAX, 0x01FE807F}) {
                p.clear(1, held, 0, 0);
                CHECKS.due("draw", Checks.drawBytes(p, 0, 0, drawn), 3);
                CHECKS.due("s", p.at(0, 0, 0), drawn);
            }
        }
    }

    private static void rightDraws() {
        CHECKS.sentence("Draws a place: 0, 1, 2 or 3 (depth 0 .. 2^24 - 1, side 0 or 1)");
        PlaceTests p = new PlaceTests();
        p.depth(7, true);
        p.stencil(0, 7, 10, 255, 255, 0, 0, 2);
        p.stencil(1, 7, 11, 255, 255, 0, 0, 2);
        for (int depth : new int[] {0, 1, FAR - 1, FAR}) {
            for (int side = 0; side < 2; side++) {
                CHECKS.due("draw", p.draw(0, 0, depth, side, 0, 0, 0, 0), 3);
                CHECKS.place("drawn", p, 0, 0, new int[] {0, depth, 10 + side});
                CHECKS.due("draw outside", p.draw(1, 0, depth, side, 0, 0, 0, 0), 0);
            }
        }
    }

    /** Refused at an open place and at others; nothing is done and nothing is counted. */
    private static void refusesDraw(int depth, int side) {
        for (int stencilTest = 0; stencilTest < 8; stencilTest += 7) {
            PlaceTests p = held();
            p.depth(7, true);
            p.stencil(0, stencilTest, 9, 255, 255, 2, 2, 2);
            p.stencil(1, stencilTest, 9, 255, 255, 2, 2, 2);
            for (int x : new int[] {0, 1, MIN, MAX}) {
                CHECKS.dueIllegal("draw(" + x + ", 0, " + depth + ", " + side + ", ..)",
                        () -> p.draw(x, 0, depth, side, ONE, ONE, ONE, ONE));
            }
            p.scissors(0, 0, 0, 0);
            CHECKS.dueIllegal("draw(0, 0, " + depth + ", " + side + ", ..), not open",
                    () -> p.draw(0, 0, depth, side, ONE, ONE, ONE, ONE));
            CHECKS.place("afterwards", p, 0, 0, new int[] {0x01020304, 1000, 100});
            for (int answer = 0; answer < 4; answer++) {
                CHECKS.due("afterwards: drawn(" + answer + ")", p.drawn(answer), 0);
            }
        }
    }

    private static void wrongDepths() {
        CHECKS.sentence("draw: IllegalArgumentException if depth is not 0 .. 2^24 - 1");
        for (int wrong : new int[] {MIN, -FAR, -1, FAR + 1, MAX}) {
            refusesDraw(wrong, 0);
            refusesDraw(wrong, 1);
        }
    }

    private static void wrongSides() {
        CHECKS.sentence("draw: IllegalArgumentException if .. side not 0 or 1");
        for (int wrong : new int[] {MIN, -1, 2, MAX}) {
            refusesDraw(0, wrong);
            refusesDraw(FAR, wrong);
            refusesDraw(-1, wrong);
        }
    }

    private static void counts(PlaceTests p, int... want) {
        for (int answer = 0; answer < 4; answer++) {
            CHECKS.due("drawn(" + answer + ")", p.drawn(answer), want[answer]);
        }
    }

    private static void answersAreCounted() {
        CHECKS.sentence("How many places were drawn, since the beginning, with the answer 0 .. 3");
        PlaceTests p = new PlaceTests();
        counts(p, 0, 0, 0, 0);
        p.draw(1, 0, 0, 0, 0, 0, 0, 0);
        counts(p, 1, 0, 0, 0);
        p.stencil(0, 0, 0, 0, 0, 0, 0, 0);
        p.draw(0, 0, 0, 0, 0, 0, 0, 0);
        counts(p, 1, 1, 0, 0);
        p.depth(0, true);
        p.draw(0, 0, 0, 1, 0, 0, 0, 0);
        counts(p, 1, 1, 1, 0);
        p.depth(-1, true);
        p.draw(0, 0, 0, 1, 0, 0, 0, 0);
        counts(p, 1, 1, 1, 1);
        p.frame(5, 5, 64, 64);
        counts(p, 1, 1, 1, 1);
        p.draw(0, 0, 0, 1, 0, 0, 0, 0);
        p.draw(5, 5, 0, 0, 0, 0, 0, 0);
        p.draw(5, 5, 0, 1, 0, 0, 0, 0);
        counts(p, 2, 2, 1, 2);
        // One place is counted each time that it is drawn.
        p.draw(5, 5, 0, 1, 0, 0, 0, 0);
        p.mask(0);
        p.draw(5, 5, 0, 1, 0, 0, 0, 0);
        counts(p, 2, 2, 1, 4);
        counts(new PlaceTests(), 0, 0, 0, 0);
    }

    private static void wrongAnswers() {
        CHECKS.sentence("drawn: IllegalArgumentException for another one");
        PlaceTests p = new PlaceTests();
        p.draw(0, 0, 0, 0, 0, 0, 0, 0);
        for (int wrong : new int[] {MIN, -1, 4, MAX}) {
            CHECKS.dueIllegal("drawn(" + wrong + ")", () -> p.drawn(wrong));
            counts(p, 0, 0, 0, 1);
        }
    }

    private static void clearsWhatIsAskedFor() {
        CHECKS.sentence("Clears what is asked for (a sum of 1 colour, 2 depth, 4 stencil)");
        int[][] want = {
            {0x01020304, 1000, 100}, {-1, 1000, 100}, {0x01020304, FAR, 100}, {-1, FAR, 100},
            {0x01020304, 1000, 255}, {-1, 1000, 255}, {0x01020304, FAR, 255}, {-1, FAR, 255},
        };
        for (int what = 0; what < 8; what++) {
            PlaceTests p = held();
            CHECKS.due("clear(" + what + ", ..)", p.clear(what, -1, FAR, 255), 1);
            CHECKS.place("clear(" + what + ", ..)", p, 0, 0, want[what]);
        }
    }

    private static void refusesClear(int what, int depth, int stencil) {
        String call = "clear(" + what + ", 5, " + depth + ", " + stencil + ")";
        PlaceTests p = held();
        CHECKS.dueIllegal(call, () -> p.clear(what, 5, depth, stencil));
        p.scissors(0, 0, 0, 0);
        CHECKS.dueIllegal(call + ", none open", () -> p.clear(what, 5, depth, stencil));
        CHECKS.place("after " + call, p, 0, 0, new int[] {0x01020304, 1000, 100});
    }

    private static void wrongWhats() {
        CHECKS.sentence("clear: IllegalArgumentException if what is not 0 .. 7");
        for (int wrong : new int[] {MIN, -1, 8, 15, MAX}) {
            refusesClear(wrong, 0, 0);
            refusesClear(wrong, FAR, 255);
        }
    }

    private static void clearsWithAnyColour() {
        CHECKS.sentence("A CLEARING makes of all open places: the colour (of the channels that the"
                + " mask has)");
        PlaceTests p = new PlaceTests();
        for (int colour : new int[] {MIN, MIN + 1, -1, 0, 1, MAX - 1, MAX}) {
            p.mask(15);
            CHECKS.due("clear", p.clear(1, colour, 0, 0), 1);
            CHECKS.place("clear(1, " + colour + ", ..)", p, 0, 0, new int[] {colour, 0, 0});
            p.mask(0);
            CHECKS.due("clear", p.clear(1, ~colour, 0, 0), 1);
            CHECKS.place("mask(0)", p, 0, 0, new int[] {colour, 0, 0});
            p.mask(8);
            CHECKS.due("clear", p.clear(1, ~colour, 0, 0), 1);
            CHECKS.place("mask(8)", p, 0, 0, new int[] {colour ^ 0xFF000000, 0, 0});
        }
    }

    private static void clearsDepthByItsRule() {
        CHECKS.sentence("the depth (if it is written by the rule, or the rule is off)");
        for (int depth : new int[] {0, 1, FAR - 1, FAR}) {
            for (int test = -1; test < 8; test++) {
                for (boolean written : new boolean[] {false, true}) {
                    PlaceTests p = held();
                    p.depth(test, written);
                    CHECKS.due("clear", p.clear(2, 5, depth, 6), 1);
                    CHECKS.place("clear(2, 5, " + depth + ", 6) with depth(" + test + ", " + written
                            + ")", p, 0, 0, new int[] {
                                0x01020304, test == -1 || written ? depth : 1000, 100,
                            });
                }
            }
        }
        PlaceTests p = held();
        p.depth(7, false);
        p.depth(-1, false);
        p.clear(2, 0, 5, 0);
        CHECKS.due("off again", p.at(0, 0, 1), 5);
    }

    private static void wrongClearDepths() {
        CHECKS.sentence("clear: IllegalArgumentException if .. depth not 0 .. 2^24 - 1");
        for (int wrong : new int[] {MIN, -1, FAR + 1, MAX}) {
            for (int what = 0; what < 8; what++) {
                refusesClear(what, wrong, 0);
                refusesClear(what, wrong, 255);
            }
        }
    }

    private static void clearsStencilByTheFront() {
        CHECKS.sentence("the stencil (the bits of the front's write mask, all if its rule is off)");
        for (int stencil : new int[] {0, 1, 127, 128, 254, 255}) {
            for (int bits : new int[] {0, 1, 127, 128, 254, 255}) {
                for (int test = 0; test < 8; test++) {
                    PlaceTests p = held();
                    p.stencil(0, test, 3, 15, bits, 1, 1, 1);
                    p.stencil(1, 7 - test, 4, 240, 255 - bits, 1, 1, 1);
                    CHECKS.due("clear", p.clear(4, 5, 6, stencil), 1);
                    CHECKS.place("write mask " + bits + ", clear(4, 5, 6, " + stencil + ")", p, 0,
                            0, new int[] {0x01020304, 1000, 100 & ~bits | stencil & bits});
                }
                PlaceTests p = held();
                p.stencil(1, 7, 3, 255, bits, 1, 1, 1);
                p.clear(4, 0, 0, stencil);
                CHECKS.due("the back alone", p.at(0, 0, 2), stencil);
                p.stencil(0, 7, 3, 255, bits, 1, 1, 1);
                p.stencil(0, -1, 3, 255, bits, 1, 1, 1);
                p.clear(4, 0, 0, 255 - stencil);
                CHECKS.due("the front off again", p.at(0, 0, 2), 255 - stencil);
            }
        }
    }

    private static void wrongClearStencils() {
        CHECKS.sentence("clear: IllegalArgumentException if .. stencil no byte");
        for (int wrong : new int[] {MIN, -128, -1, 256, MAX}) {
            for (int what = 0; what < 8; what++) {
                refusesClear(what, 0, wrong);
                refusesClear(what, FAR, wrong);
            }
        }
    }

    private static void openPlacesAreCounted() {
        CHECKS.sentence("clear: how many places were open");
        PlaceTests p = new PlaceTests();
        p.frame(1023, 1023, 64, 64);
        // Nothing would be written, and still they are open.
        p.mask(0);
        p.depth(7, false);
        p.stencil(0, 0, 0, 0, 0, 0, 0, 0);
        for (int what = 0; what < 8; what++) {
            p.scissors(0, 0, -1, 0);
            CHECKS.due("all: clear(" + what + ", ..)", p.clear(what, -1, FAR, 255), 4096);
            p.scissors(1023, 1023, 1024, 1024);
            CHECKS.due("one: clear(" + what + ", ..)", p.clear(what, -1, FAR, 255), 1);
            p.scissors(1024, 1023, 1024, 1024);
            CHECKS.due("none: clear(" + what + ", ..)", p.clear(what, -1, FAR, 255), 0);
        }
        for (int what = 0; what < 3; what++) {
            CHECKS.due("nothing is written: sum(" + what + ")", p.sum(what), 0);
        }
        CHECKS.sentence("A CLEARING makes of all open places");
        PlaceTests q = new PlaceTests();
        q.frame(3, 4, 4, 4);
        q.scissors(4, 5, 6, 7);
        CHECKS.due("clear", q.clear(7, MIN, FAR, 255), 4);
        for (int y = 4; y < 8; y++) {
            for (int x = 3; x < 7; x++) {
                boolean open = x >= 4 && x < 6 && y >= 5 && y < 7;
                CHECKS.place("cleared or not", q, x, y,
                        open ? new int[] {MIN, FAR, 255} : new int[] {0, 0, 0});
            }
        }
    }

    private static void clearingIsNoDrawing() {
        CHECKS.sentence("A CLEARING makes of all open places: the colour, the depth, the stencil");
        PlaceTests p = held();
        p.depth(0, true);
        p.stencil(0, 0, 1, 255, 255, 1, 1, 1);
        p.blend(0, 0, 0, 0, 0, 0);
        CHECKS.due("clear", p.clear(7, 0x12345678, 5, 6), 1);
        CHECKS.place("no test, deed or blending", p, 0, 0, new int[] {0x12345678, 5, 6});
        p.logic(15);
        CHECKS.due("clear", p.clear(1, 0x12345678, 5, 6), 1);
        CHECKS.place("no logic", p, 0, 0, new int[] {0x12345678, 5, 6});
        counts(p, 0, 0, 0, 0);
    }

    private static void manyCalls() {
        CHECKS.sentence("An object is used for at most 512 calls after it has been made");
        PlaceTests drawn = new PlaceTests();
        for (int i = 0; i < 511; i++) {
            CHECKS.due("draw, call " + (i + 1), drawn.draw(0, 0, 0, 0, 0, 0, 0, 0), 3);
        }
        CHECKS.due("drawn(3), call 512", drawn.drawn(3), 511);
        PlaceTests missed = new PlaceTests();
        for (int i = 0; i < 511; i++) {
            CHECKS.due("draw, call " + (i + 1), missed.draw(MAX, MIN, FAR, 1, 0, 0, 0, 0), 0);
        }
        CHECKS.due("drawn(0), call 512", missed.drawn(0), 511);
        PlaceTests refused = held();
        for (int i = 0; i < 510; i++) {
            CHECKS.dueIllegal("logic(16), call " + (i + 2), () -> refused.logic(16));
        }
        CHECKS.due("at, call 512", refused.at(0, 0, 0), 0x01020304);
        PlaceTests more = new PlaceTests();
        more.stencil(0, 7, 0, 255, 255, 0, 0, 6);
        for (int i = 1; i <= 510; i++) {
            more.draw(0, 0, 0, 0, 0, 0, 0, 0);
        }
        CHECKS.due("at, call 512", more.at(0, 0, 2), 510 - 256);
    }

    private static void manyFrames() {
        CHECKS.sentence("An object is used for at most 512 calls after it has been made");
        PlaceTests p = new PlaceTests();
        for (int i = 0; i < 170; i++) {
            int side = i % 2 == 0 ? 64 : 1 + i % 64;
            p.frame(i, 1023 - i, side, side);
            CHECKS.due("clear, call " + (3 * i + 2), p.clear(7, -1, FAR, 255), side * side);
            CHECKS.due("at, call " + (3 * i + 3), p.at(i + side - 1, 1023 - i, 1), FAR);
        }
        p.frame(0, 0, 64, 64);
        CHECKS.due("sum, call 512", p.sum(0), 0);
    }
}
