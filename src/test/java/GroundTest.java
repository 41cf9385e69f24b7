/** Promise 9: place, 10: crowd, 11: shut, 12: way: what they answer and refuse. */
public final class GroundTest {
    private static final int MAX = Integer.MAX_VALUE;
    private static final int MIN = Integer.MIN_VALUE;

    public static void main(String[] args) {
        Due due = new Due();
        places(due);
        crowds(due);
        shuts(due);
        ways(due);
        due.end();
    }

    private static void places(Due due) {
        FestivalFields x = new FestivalFields();
        for (int wrong : new int[] {-1, 20001, MAX, MIN}) {
            due.illegal("place(" + wrong + ", 0)", () -> x.place(wrong, 0));
        }
        for (int wrong : new int[] {-1, 2001, MAX, MIN}) {
            due.illegal("place(0, " + wrong + ")", () -> x.place(0, wrong));
        }
        due.is("none came", 0, x.count(3));
        for (int i = 0; i < 8; i++) {
            due.is("place", i, x.place(20000, 2000));
        }
        due.unsupported("the ninth", () -> x.place(0, 0));
        due.illegal("its numbers are told first", () -> x.place(-1, 0));
        due.is("PLACES", 8, x.count(3));
        due.is("all CROWD", 160000, x.count(4));
    }

    private static void crowds(Due due) {
        FestivalFields x = new FestivalFields();
        x.place(3, 4);
        due.outOfBounds("crowd(1, 0)", () -> x.crowd(1, 0));
        due.outOfBounds("crowd(-1, -1): the PLACE is told first", () -> x.crowd(-1, -1));
        due.illegal("crowd(0, -1)", () -> x.crowd(0, -1));
        due.illegal("crowd(0, 20001)", () -> x.crowd(0, 20001));
        due.is("nothing changed", 3, x.count(4));
        x.crowd(0, 20000);
        due.is("crowd(0, 20000)", 20000, x.count(4));
        x.crowd(0, 5);
        due.is("five of four a minute", 2, x.empty());
        x.crowd(0, 4);
        due.is("four of four a minute", 1, x.empty());
        x.crowd(0, 0);
        due.is("nobody", 0, x.empty());
    }

    private static void shuts(Due due) {
        FestivalFields x = new FestivalFields();
        x.place(3, 4);
        x.place(0, 0);
        due.no("it is not SHUT", x.shut(0, false));
        due.yes("shut(0)", x.shut(0, true));
        due.is("no gate", -1, x.empty());
        due.no("shut(0) again", x.shut(0, true));
        due.yes("open again", x.shut(0, false));
        due.is("the gate", 1, x.empty());
        due.yes("one without a RATE", x.shut(1, true));
        due.no("again", x.shut(1, true));
        due.outOfBounds("shut(2)", () -> x.shut(2, true));
        due.outOfBounds("shut(-1)", () -> x.shut(-1, false));
        due.outOfBounds("shut(MAX)", () -> x.shut(MAX, false));
    }

    private static void ways(Due due) {
        FestivalFields x = new FestivalFields();
        x.place(1, 0);
        x.place(0, 1);
        due.outOfBounds("way(2, 0)", () -> x.way(2, 0, 1, 1));
        due.outOfBounds("way(0, 2)", () -> x.way(0, 2, 1, 1));
        due.outOfBounds("way(-1, -1, 0, 0): the PLACE is told first", () -> x.way(-1, -1, 0, 0));
        due.outOfBounds("way(0, MIN)", () -> x.way(0, MIN, 1, 1));
        due.illegal("both PLACES are one", () -> x.way(1, 1, 1, 1));
        for (int wrong : new int[] {0, -1, 9, MAX, MIN}) {
            due.illegal("LENGTH " + wrong, () -> x.way(0, 1, wrong, 1));
        }
        for (int wrong : new int[] {0, -1, 2001, MAX, MIN}) {
            due.illegal("WIDE " + wrong, () -> x.way(0, 1, 1, wrong));
        }
        due.is("none came", 0, x.count(5));
        due.is("none came: no way out", -1, x.empty());
        for (int i = 0; i < 14; i++) {
            due.is("way", i, x.way(i % 2, 1 - i % 2, i % 2 == 0 ? 8 : 1, i % 2 == 0 ? 1 : 2000));
        }
        due.unsupported("the 15th", () -> x.way(0, 1, 1, 1));
        due.illegal("its numbers are told first", () -> x.way(0, 1, 0, 1));
        due.illegal("its PLACES too", () -> x.way(0, 0, 1, 1));
        due.outOfBounds("and that there are such", () -> x.way(0, 2, 1, 1));
        due.is("WAYS", 14, x.count(5));
        due.is("by the short one, told from its other end", 2, x.empty());
    }
}
