/** Promises 4 to 8 at their bounds: the field's corners, the TENTS' sizes, a full field, and what is refused. */
public final class BoundsFieldTest {
    private static final int NONE = FestivalFields.NONE;
    private static final int LANE = -2;
    private static final int[] NO_SQUARES = {-1, 192, -2, 193, 255, 256, -16, Integer.MAX_VALUE, Integer.MIN_VALUE};

    public static void main(String[] args) {
        Due due = new Due();
        grassAtFirst(due);
        everyLane(due);
        laneThatIs(due);
        laneUnderTent(due);
        noSuchSquare(due);
        gateAtFirst(due);
        gateAnywhere(due);
        sizesWithin(due);
        sizesBeyond(due);
        bordersOfAllSizes(due);
        grassAlone(due);
        theOnlyPlace(due);
        fewestSteps(due);
        leastNumber(due);
        fullOfTents(due);
        fullOfLanes(due);
        sixty(due);
        sixtyAndNoPlace(due);
        strikeOfNone(due);
        strikes(due);
        numbersAreNotUsedAgain(due);
        due.end();
    }

    private static void grassAtFirst(Due due) {
        due.of("the field: grass (at first)");
        FestivalFields x = new FestivalFields();
        for (int square = 0; square < 192; square++) {
            due.is("at(" + square + ")", NONE, x.at(square));
        }
        for (int square = 0; square < 192; square++) {
            due.no("lane(" + square + ", false)", x.lane(square, false));
        }
        due.is("LANE SQUARES", 0, x.count(9));
    }

    private static void everyLane(Due due) {
        due.of("4: a SQUARE is LANE: true; 8: - 2: it is LANE");
        FestivalFields x = new FestivalFields();
        for (int square = 0; square < 192; square++) {
            due.yes("lane(" + square + ", true)", x.lane(square, true));
            due.is("at(" + square + ")", LANE, x.at(square));
        }
        due.is("all", 192, x.count(9));
        due.of("4: or grass: true; 8: NONE");
        for (int square : new int[] {0, 15, 16, 100, 176, 191}) {
            due.yes("lane(" + square + ", false)", x.lane(square, false));
            due.is("at(" + square + ")", NONE, x.at(square));
        }
        due.is("all but six", 186, x.count(9));
    }

    private static void laneThatIs(Due due) {
        due.of("4: false, and nothing happens, if it is that already");
        for (int square : new int[] {0, 191}) {
            FestivalFields x = new FestivalFields();
            due.no("grass", x.lane(square, false));
            due.is("it is grass still", NONE, x.at(square));
            x.lane(square, true);
            due.no("LANE", x.lane(square, true));
            due.is("it is LANE still", LANE, x.at(square));
            due.is("one LANE", 1, x.count(9));
        }
    }

    private static void laneUnderTent(Due due) {
        due.of("4: false, and nothing happens, if a TENT stands there");
        FestivalFields x = new FestivalFields();
        x.gate(17);
        x.tent(2, 2);
        for (int square : new int[] {17, 18, 33, 34}) {
            due.no("lane(" + square + ", true)", x.lane(square, true));
            due.no("lane(" + square + ", false)", x.lane(square, false));
            due.is("at(" + square + ")", 0, x.at(square));
        }
        for (int square : new int[] {0, 1, 2, 3, 16, 19, 32, 35, 48, 49, 50, 51}) {
            due.yes("beside it: lane(" + square + ", true)", x.lane(square, true));
        }
        due.is("LANES", 12, x.count(9));
        due.is("SQUARES with a TENT", 4, x.count(2));
        x.strike(0);
        due.is("it was grass below", NONE, x.at(17));
        due.yes("lane behind strike", x.lane(17, true));
    }

    private static void noSuchSquare(Due due) {
        FestivalFields x = new FestivalFields();
        x.gate(100);
        x.lane(191, true);
        due.of("4, 5, 8: IndexOutOfBoundsException: there is no such SQUARE");
        for (int square : NO_SQUARES) {
            due.outOfBounds("lane(" + square + ", true)", () -> x.lane(square, true));
            due.outOfBounds("lane(" + square + ", false)", () -> x.lane(square, false));
            due.outOfBounds("gate(" + square + ")", () -> x.gate(square));
            due.outOfBounds("at(" + square + ")", () -> x.at(square));
        }
        due.is("LANES", 1, x.count(9));
        due.is("a TENT", 0, x.tent(1, 1));
        due.is("the GATE square is as it was", 0, x.at(100));
        due.of("4, 5, 8: the last SQUARES");
        due.fine("gate(0)", () -> x.gate(0));
        due.fine("gate(191)", () -> x.gate(191));
        due.is("at(191)", LANE, x.at(191));
        due.is("at(0)", NONE, x.at(0));
    }

    private static void gateAtFirst(Due due) {
        due.of("the field: a GATE square (0 at first)");
        FestivalFields x = new FestivalFields();
        x.tent(1, 1);
        due.is("at(0)", 0, x.at(0));
    }

    private static void gateAnywhere(Due due) {
        due.of("5: the GATE square");
        for (int square = 0; square < 192; square++) {
            FestivalFields x = new FestivalFields();
            x.gate(square);
            due.is("a GATE takes no SQUARE", NONE, x.at(square));
            x.tent(1, 1);
            due.is("gate(" + square + ")", 0, x.at(square));
            due.is("one SQUARE", 1, x.count(2));
        }
        FestivalFields x = new FestivalFields();
        x.tent(3, 3);
        due.fine("below a TENT", () -> x.gate(17));
        x.tent(1, 1);
        due.is("two steps from it: (3, 1) of the least number", 1, x.at(19));
        due.fine("on a LANE", () -> {
            x.lane(191, true);
            x.gate(191);
        });
        x.tent(1, 1);
        due.is("one step from it: (15, 10) of the least number", 2, x.at(175));
    }

    private static void sizesWithin(Due due) {
        due.of("the field: w wide and h high (1 to 5 each)");
        for (int w = 1; w <= 5; w++) {
            for (int h = 1; h <= 5; h++) {
                FestivalFields x = new FestivalFields();
                due.is("tent(" + w + ", " + h + ")", 0, x.tent(w, h));
                for (int square = 0; square < 192; square++) {
                    boolean in = square % 16 < w && square / 16 < h;
                    due.is("at(" + square + ")", in ? 0 : NONE, x.at(square));
                }
                due.is("its SQUARES", w * h, x.count(2));
            }
        }
    }

    private static void sizesBeyond(Due due) {
        due.of("6: IllegalArgumentException: a size is none");
        FestivalFields x = new FestivalFields();
        int[] wrong = {0, 6, -1, 7, 16, Integer.MAX_VALUE, Integer.MIN_VALUE};
        for (int one : wrong) {
            for (int other = 1; other <= 5; other += 4) {
                int fine = other;
                due.illegal("tent(" + one + ", " + fine + ")", () -> x.tent(one, fine));
                due.illegal("tent(" + fine + ", " + one + ")", () -> x.tent(fine, one));
            }
            due.illegal("tent(" + one + ", " + one + ")", () -> x.tent(one, one));
        }
        due.is("no TENT", 0, x.count(1));
        due.is("at(0)", NONE, x.at(0));
        due.is("the first has the first number", 0, x.tent(1, 1));
    }

    private static void bordersOfAllSizes(Due due) {
        due.of("the field: x 0 to 15, y 0 to 11 (a TENT has no SQUARE beyond, nor around)");
        int[] gates = {15, 176, 191};
        for (int gate : gates) {
            for (int w = 1; w <= 5; w++) {
                for (int h = 1; h <= 5; h++) {
                    FestivalFields x = new FestivalFields();
                    x.gate(gate);
                    x.tent(w, h);
                    int left = gate % 16 == 0 ? 0 : 16 - w;
                    int top = gate / 16 == 0 ? 0 : 12 - h;
                    String call = "gate " + gate + ", tent(" + w + ", " + h + ")";
                    for (int square = 0; square < 192; square++) {
                        int column = square % 16 - left;
                        int row = square / 16 - top;
                        boolean in = column >= 0 && column < w && row >= 0 && row < h;
                        due.is(call + " at(" + square + ")", in ? 0 : NONE, x.at(square));
                    }
                }
            }
        }
    }

    /** Six LANES that each five by five SQUARES have one of. */
    static void shutOutTheLargest(FestivalFields x) {
        for (int square : new int[] {68, 73, 78, 148, 153, 158}) {
            x.lane(square, true);
        }
    }

    private static void grassAlone(Due due) {
        due.of("6: NONE, and it is not put, if there is no place");
        FestivalFields x = new FestivalFields();
        shutOutTheLargest(x);
        due.is("a LANE in each five by five", NONE, x.tent(5, 5));
        due.is("no TENT", 0, x.count(1));
        due.is("no SQUARE with one", 0, x.count(2));
        due.is("the LANES are as they were", 6, x.count(9));
        due.outOfBounds("strike(0)", () -> x.strike(0));
        due.is("four by five", 0, x.tent(4, 5));
        due.is("five by four", 1, x.tent(5, 4));
        FestivalFields y = new FestivalFields();
        shutOutTheLargest(y);
        y.lane(153, false);
        due.is("without one of the LANES", 0, y.tent(5, 5));
        due.is("the nearest of those places", 0, y.at(16 * 5 + 5));
        due.of("6: a TENT is put without another TENT");
        FestivalFields z = new FestivalFields();
        for (int square : new int[] {68, 73, 78, 148, 153, 158}) {
            z.gate(square);
            z.tent(1, 1);
        }
        due.is("a TENT in each five by five", NONE, z.tent(5, 5));
        due.is("their number", 6, z.count(1));
        z.strike(5);
        due.is("without one of them", 6, z.tent(5, 5));
        due.is("as near to the GATE as can be", 6, z.at(158));
    }

    private static void theOnlyPlace(Due due) {
        due.of("6: of all such places (there is one alone)");
        for (int corner : new int[] {0, 14, 144, 158, 69}) {
            FestivalFields x = new FestivalFields();
            for (int square = 0; square < 192; square++) {
                int column = square % 16 - corner % 16;
                int row = square / 16 - corner / 16;
                if (column < 0 || column > 1 || row < 0 || row > 2) {
                    x.lane(square, true);
                }
            }
            x.gate(191 - corner);
            due.is("three wide", NONE, x.tent(3, 1));
            due.is("four high", NONE, x.tent(1, 4));
            due.is("two wide, three high", 0, x.tent(2, 3));
            due.is("its first SQUARE", 0, x.at(corner));
            due.is("its last SQUARE", 0, x.at(corner + 33));
            due.is("nothing is left", NONE, x.tent(1, 1));
            x.strike(0);
            x.lane(corner + 33, true);
            due.is("with a LANE in it", NONE, x.tent(2, 3));
            due.is("less high", 1, x.tent(2, 2));
            due.is("less wide", 2, x.tent(1, 1));
        }
    }

    private static void fewestSteps(Due due) {
        due.of("6: whose SQUARE of the least number is the fewest steps from the GATE square");
        FestivalFields x = new FestivalFields();
        x.gate(191);
        x.tent(1, 1);
        x.tent(2, 2);
        // At (14, 9) its first SQUARE is 3 steps off, at (13, 10) too; the places that touch the GATE are taken.
        due.is("its first SQUARE counts, not its nearest", 1, x.at(16 * 9 + 14));
        due.is("at (13, 11)", NONE, x.at(16 * 11 + 13));
        FestivalFields y = new FestivalFields();
        y.gate(16 * 6 + 8);
        y.lane(16 * 6 + 8, true);
        y.tent(3, 3);
        // (8, 5) and (7, 6) would cover the LANE; (9, 6) and (8, 7) are one step off.
        due.is("one step off", 0, y.at(16 * 6 + 9));
        due.is("its last SQUARE", 0, y.at(16 * 8 + 11));
        due.is("not (8, 7)", NONE, y.at(16 * 7 + 8));
    }

    private static void leastNumber(Due due) {
        due.of("6: of several that of the least number");
        FestivalFields x = new FestivalFields();
        x.gate(85);
        int[] order = {85, 69, 84, 86, 101, 53, 68, 70, 83, 87, 100, 102, 117, 37};
        for (int i = 0; i < order.length; i++) {
            x.tent(1, 1);
            due.is("TENT " + i, i, x.at(order[i]));
        }
        FestivalFields y = new FestivalFields();
        for (int square = 0; square < 192; square++) {
            if (square != 15 && square != 120) {
                y.lane(square, true);
            }
        }
        // (15, 0) and (8, 7) are 15 steps from the first SQUARE.
        y.tent(1, 1);
        due.is("as far, of the lesser number", 0, y.at(15));
        due.is("as far, of the greater number", NONE, y.at(120));
    }

    private static void fullOfTents(Due due) {
        due.of("6: NONE, and it is not put, if there is no place (full of TENTS)");
        FestivalFields x = new FestivalFields();
        for (int i = 0; i < 12; i++) {
            due.is("tent(4, 4)", i, x.tent(4, 4));
        }
        due.is("all SQUARES", 192, x.count(2));
        due.is("one more", NONE, x.tent(1, 1));
        due.is("as many as before", 12, x.count(1));
        due.outOfBounds("it has no number", () -> x.strike(12));
        x.strike(11);
        due.is("too large", NONE, x.tent(5, 1));
        due.is("in its place", 12, x.tent(4, 4));
        due.is("the last SQUARE", 12, x.at(191));
    }

    private static void fullOfLanes(Due due) {
        due.of("6: NONE, and it is not put, if there is no place (LANES alone)");
        FestivalFields x = new FestivalFields();
        for (int square = 0; square < 192; square++) {
            x.lane(square, true);
        }
        due.is("tent(1, 1)", NONE, x.tent(1, 1));
        due.illegal("a size that is none", () -> x.tent(0, 1));
        x.lane(191, false);
        due.is("the last SQUARE is grass", 0, x.tent(1, 1));
        due.is("at(191)", 0, x.at(191));
    }

    private static void sixty(Due due) {
        due.of("6: UnsupportedOperationException: there were 60");
        FestivalFields x = new FestivalFields();
        shutOutTheLargest(x);
        due.is("one that is not put does not count", NONE, x.tent(5, 5));
        for (int i = 0; i < 60; i++) {
            due.is("tent", i, x.tent(1, 1));
        }
        due.unsupported("the 61st", () -> x.tent(1, 1));
        due.unsupported("the 61st, without a place", () -> x.tent(5, 5));
        due.illegal("its size is told first", () -> x.tent(6, 1));
        due.illegal("its size is told first", () -> x.tent(1, 0));
        due.is("as many as before", 60, x.count(1));
        due.outOfBounds("strike(60)", () -> x.strike(60));
        due.yes("strike(59)", x.strike(59));
        due.unsupported("there were 60, of whom 59 stand", () -> x.tent(1, 1));
        for (int i = 0; i < 59; i++) {
            due.yes("strike(" + i + ")", x.strike(i));
        }
        due.unsupported("there were 60, none stands", () -> x.tent(1, 1));
        due.is("none stands", 0, x.count(1));
        due.is("the LANES stay", 6, x.count(9));
        due.no("strike(59) again", x.strike(59));
    }

    private static void sixtyAndNoPlace(Due due) {
        due.of("6: UnsupportedOperationException: there were 60 (and all is full)");
        FestivalFields x = new FestivalFields();
        for (int y = 0; y < 12; y++) {
            x.lane(16 * y + 15, true);
        }
        for (int i = 0; i < 60; i++) {
            due.is("tent(3, 1)", i, x.tent(3, 1));
        }
        due.is("SQUARES with a TENT", 180, x.count(2));
        due.unsupported("the 61st", () -> x.tent(1, 1));
        FestivalFields fiftyNine = new FestivalFields();
        for (int y = 0; y < 12; y++) {
            fiftyNine.lane(16 * y + 15, true);
        }
        for (int i = 0; i < 59; i++) {
            fiftyNine.tent(3, 1);
        }
        due.is("59, and no place for the 60th", NONE, fiftyNine.tent(3, 2));
        due.is("the 60th", 59, fiftyNine.tent(3, 1));
    }

    private static void strikeOfNone(Due due) {
        due.of("7: IndexOutOfBoundsException: there is no such TENT");
        FestivalFields x = new FestivalFields();
        for (int tent : new int[] {0, -1, -2, 1, 59, 60, Integer.MAX_VALUE, Integer.MIN_VALUE}) {
            due.outOfBounds("of none: strike(" + tent + ")", () -> x.strike(tent));
        }
        x.tent(2, 1);
        x.tent(2, 1);
        x.lane(100, true);
        for (int tent : new int[] {2, 3, -1, -2, 60, Integer.MAX_VALUE, Integer.MIN_VALUE}) {
            due.outOfBounds("of two: strike(" + tent + ")", () -> x.strike(tent));
        }
        due.is("both stand", 2, x.count(1));
        due.is("LANE is no TENT", 1, x.count(9));
        due.yes("strike(1)", x.strike(1));
        due.yes("strike(0)", x.strike(0));
    }

    private static void strikes(Due due) {
        due.of("7: a TENT is taken down: whether it stood");
        FestivalFields x = new FestivalFields();
        for (int i = 0; i < 3; i++) {
            x.tent(5, 4);
        }
        due.yes("strike(1)", x.strike(1));
        due.is("TENTS that stand", 2, x.count(1));
        due.is("SQUARES with one", 40, x.count(2));
        due.no("strike(1) again", x.strike(1));
        due.no("and again", x.strike(1));
        due.is("TENTS that stand", 2, x.count(1));
        due.is("the first stays", 0, x.at(0));
        due.is("the first stays", 0, x.at(52));
        due.is("its SQUARES are grass", NONE, x.at(64));
        due.is("its SQUARES are grass", NONE, x.at(16 * 7 + 4));
        due.is("the third stays", 2, x.at(5));
        due.yes("strike(0)", x.strike(0));
        due.yes("strike(2)", x.strike(2));
        due.is("none stands", 0, x.count(1));
        due.is("no SQUARE with one", 0, x.count(2));
    }

    private static void numbersAreNotUsedAgain(Due due) {
        due.of("the field: TENTS, numbered from 0 on");
        FestivalFields x = new FestivalFields();
        for (int i = 0; i < 60; i++) {
            due.is("tent", i, x.tent(5, 5));
            due.is("at(0)", i, x.at(0));
            due.yes("strike", x.strike(i));
        }
        due.unsupported("the 61st", () -> x.tent(5, 5));
        FestivalFields y = new FestivalFields();
        y.tent(2, 2);
        y.strike(0);
        y.tent(2, 2);
        due.no("the one that is down", y.strike(0));
        due.is("the other one stands in its place", 1, y.at(17));
        due.is("one stands", 1, y.count(1));
    }
}
