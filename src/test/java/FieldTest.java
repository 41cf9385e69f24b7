/** Promise 4: lane, 5: gate, 6: tent, 7: strike, 8: at. */
public final class FieldTest {
    private static final int[] NO_SQUARES = {-1, 192, 193, Integer.MAX_VALUE, Integer.MIN_VALUE};

    public static void main(String[] args) {
        Due due = new Due();
        lanes(due);
        noSuchSquare(due);
        nearest(due);
        ties(due);
        borders(due);
        sizes(due);
        atMostSixty(due);
        strikes(due);
        due.end();
    }

    private static void lanes(Due due) {
        FestivalFields x = new FestivalFields();
        due.no("grass is grass already", x.lane(5, false));
        due.yes("lane(5)", x.lane(5, true));
        due.no("lane(5) again", x.lane(5, true));
        due.is("at(5)", -2, x.at(5));
        due.is("at(4)", -1, x.at(4));
        due.yes("lane(5) off", x.lane(5, false));
        due.is("at(5) again", -1, x.at(5));
        due.yes("lane(191)", x.lane(191, true));
        due.is("at(191)", -2, x.at(191));
        x.tent(1, 1);
        due.no("a TENT stands on 0: lane", x.lane(0, true));
        due.no("a TENT stands on 0: grass", x.lane(0, false));
        due.is("at(0)", 0, x.at(0));
        x.strike(0);
        due.yes("lane(0) behind strike", x.lane(0, true));
    }

    private static void noSuchSquare(Due due) {
        FestivalFields x = new FestivalFields();
        for (int square : NO_SQUARES) {
            due.outOfBounds("lane " + square, () -> x.lane(square, true));
            due.outOfBounds("lane off " + square, () -> x.lane(square, false));
            due.outOfBounds("gate " + square, () -> x.gate(square));
            due.outOfBounds("at " + square, () -> x.at(square));
        }
        due.is("the GATE stays at 0", 0, x.tent(1, 1));
        due.is("at(0)", 0, x.at(0));
    }

    private static void nearest(Due due) {
        FestivalFields x = new FestivalFields();
        x.gate(16 * 6 + 8);
        x.tent(1, 1);
        due.is("a TENT on the GATE square", 0, x.at(16 * 6 + 8));
        // The square of the least number counts, not the nearest one: (8, 5) is one step away and free above.
        x.tent(1, 2);
        due.is("not at (8, 5), as (8, 6) is taken", 1, x.at(16 * 6 + 7));
        due.is("it is two high", 1, x.at(16 * 7 + 7));
        x.lane(16 * 6 + 9, true);
        x.tent(1, 1);
        due.is("the least number of those one step away", 2, x.at(16 * 5 + 8));
        x.tent(1, 1);
        due.is("LANE is left out: (8, 7)", 3, x.at(16 * 7 + 8));
        x.gate(0);
        x.tent(5, 5);
        due.is("behind gate(0)", 4, x.at(0));
        due.is("its last square", 4, x.at(16 * 4 + 4));
        due.is("beside it", -1, x.at(16 * 4 + 5));
    }

    private static void ties(Due due) {
        FestivalFields x = new FestivalFields();
        x.gate(16 * 5 + 5);
        int[] order = {85, 69, 84, 86, 101, 53, 68, 70, 83, 87, 100, 102, 117};
        for (int i = 0; i < order.length; i++) {
            due.is("tent(1, 1)", i, x.tent(1, 1));
            due.is("at(" + order[i] + ")", i, x.at(order[i]));
        }
    }

    private static void borders(Due due) {
        FestivalFields x = new FestivalFields();
        x.gate(15);
        x.tent(5, 1);
        due.is("not beyond the right border", 0, x.at(11));
        due.is("to the last column", 0, x.at(15));
        due.is("not around it", -1, x.at(16));
        x.gate(191);
        x.tent(1, 5);
        due.is("not beyond the lower border", 1, x.at(16 * 7 + 15));
        due.is("to the last row", 1, x.at(191));
        FestivalFields y = new FestivalFields();
        for (int square = 0; square < 192; square++) {
            if (square % 16 != 3) {
                y.lane(square, true);
            }
        }
        due.is("no place for two wide", -1, y.tent(2, 1));
        due.is("a TENT that is not put has no number", 0, y.tent(1, 5));
        due.is("", 1, y.tent(1, 5));
        due.is("two rows are left", -1, y.tent(1, 3));
        due.is("", 2, y.tent(1, 2));
        due.is("all is full", -1, y.tent(1, 1));
        due.is("", 3, y.count(1));
    }

    private static void sizes(Due due) {
        FestivalFields x = new FestivalFields();
        int[] none = {0, -1, 6, 7, Integer.MAX_VALUE, Integer.MIN_VALUE};
        for (int size : none) {
            due.illegal("tent(" + size + ", 1)", () -> x.tent(size, 1));
            due.illegal("tent(1, " + size + ")", () -> x.tent(1, size));
        }
        due.is("none was put", 0, x.count(1));
        due.is("tent(5, 5)", 0, x.tent(5, 5));
        due.is("its squares", 25, x.count(2));
    }

    private static void atMostSixty(Due due) {
        FestivalFields x = new FestivalFields();
        for (int i = 0; i < 60; i++) {
            due.is("tent", i, x.tent(1, 1));
        }
        due.unsupported("the 61st", () -> x.tent(1, 1));
        due.illegal("its size is told first", () -> x.tent(0, 1));
        x.strike(7);
        due.unsupported("there were 60", () -> x.tent(1, 1));
        due.is("those that stand", 59, x.count(1));
    }

    private static void strikes(Due due) {
        FestivalFields x = new FestivalFields();
        due.outOfBounds("strike(0) of none", () -> x.strike(0));
        x.tent(2, 2);
        x.tent(1, 1);
        due.outOfBounds("strike(-1)", () -> x.strike(-1));
        due.outOfBounds("strike(2)", () -> x.strike(2));
        due.outOfBounds("strike(-2)", () -> x.strike(-2));
        due.yes("strike(0)", x.strike(0));
        due.no("strike(0) again", x.strike(0));
        due.is("at(0)", -1, x.at(0));
        due.is("at(17)", -1, x.at(17));
        due.is("at(2)", 1, x.at(2));
        due.is("standing", 1, x.count(1));
        due.is("a new one has a new number", 2, x.tent(2, 2));
        due.is("at(17)", 2, x.at(17));
        due.no("strike(0) of what stands no more", x.strike(0));
        due.is("at(17) stays", 2, x.at(17));
    }
}
