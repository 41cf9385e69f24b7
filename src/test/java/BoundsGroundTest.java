/** Promises 9 to 12 at their bounds: the numbers of PLACES and WAYS, how many there may be, and what is refused. */
public final class BoundsGroundTest {
    private static final int NONE = FestivalFields.NONE;
    private static final int MAX = Integer.MAX_VALUE;
    private static final int MIN = Integer.MIN_VALUE;

    public static void main(String[] args) {
        Due due = new Due();
        crowdsOfPlaces(due);
        ratesOfPlaces(due);
        numbersThatAreNone(due);
        eightPlaces(due);
        notShutAtFirst(due);
        crowdWithin(due);
        crowdBeyond(due);
        noSuchPlaceForCrowd(due);
        shuts(due);
        noSuchPlaceForShut(due);
        noSuchPlaceForWay(due);
        bothPlacesAreOne(due);
        lengths(due);
        wides(due);
        fourteenWays(due);
        whatIsToldFirst(due);
        due.end();
    }

    private static FestivalFields withPlaces(int n) {
        FestivalFields x = new FestivalFields();
        for (int i = 0; i < n; i++) {
            x.place(0, 0);
        }
        return x;
    }

    private static void crowdsOfPlaces(Due due) {
        due.of("PLACES: CROWD (0 to 20000)");
        FestivalFields x = new FestivalFields();
        due.is("place(0, 0)", 0, x.place(0, 0));
        due.is("nobody", 0, x.count(4));
        due.is("place(1, 0)", 1, x.place(1, 0));
        due.is("one", 1, x.count(4));
        due.is("place(19999, 0)", 2, x.place(19999, 0));
        due.is("place(20000, 0)", 3, x.place(20000, 0));
        due.is("all", 40000, x.count(4));
    }

    private static void ratesOfPlaces(Due due) {
        due.of("PLACES: RATE (0 to 2000: how many may go out there each minute; 0: no GATE)");
        int[] rates = {0, 1, 2, 500, 1999, 2000};
        int[] minutes = {NONE, NONE, NONE, 40, 11, 10};
        for (int i = 0; i < rates.length; i++) {
            FestivalFields x = new FestivalFields();
            due.is("place(20000, " + rates[i] + ")", 0, x.place(20000, rates[i]));
            due.is("RATE " + rates[i] + ": empty()", minutes[i], x.empty());
            x.crowd(0, 1);
            due.is("RATE " + rates[i] + ": one", rates[i] == 0 ? NONE : 1, x.empty());
        }
    }

    private static void numbersThatAreNone(Due due) {
        due.of("9: IllegalArgumentException: a number is none");
        FestivalFields x = new FestivalFields();
        for (int wrong : new int[] {-1, 20001, -20000, MAX, MIN}) {
            for (int rate : new int[] {0, 2000}) {
                due.illegal("place(" + wrong + ", " + rate + ")", () -> x.place(wrong, rate));
            }
        }
        for (int wrong : new int[] {-1, 2001, 20000, MAX, MIN}) {
            for (int crowd : new int[] {0, 20000}) {
                due.illegal("place(" + crowd + ", " + wrong + ")", () -> x.place(crowd, wrong));
            }
        }
        due.illegal("both", () -> x.place(-1, 2001));
        due.is("no PLACE", 0, x.count(3));
        due.is("no CROWD", 0, x.count(4));
        due.outOfBounds("none with that number", () -> x.crowd(0, 0));
        due.is("the first has the first number", 0, x.place(5, 1));
        due.is("five by one", 5, x.empty());
    }

    private static void eightPlaces(Due due) {
        due.of("9: UnsupportedOperationException: there are 8");
        FestivalFields x = new FestivalFields();
        for (int i = 0; i < 8; i++) {
            due.is("place", i, x.place(20000, 500));
        }
        due.is("forty minutes", 40, x.empty());
        due.unsupported("the ninth", () -> x.place(0, 0));
        due.unsupported("the ninth", () -> x.place(20000, 2000));
        due.illegal("its CROWD is told first", () -> x.place(-1, 0));
        due.illegal("its CROWD is told first", () -> x.place(20001, 0));
        due.illegal("its RATE is told first", () -> x.place(0, -1));
        due.illegal("its RATE is told first", () -> x.place(0, 2001));
        due.is("PLACES", 8, x.count(3));
        due.is("all CROWD", 160000, x.count(4));
        due.is("forty minutes still", 40, x.empty());
        due.outOfBounds("crowd(8, 0)", () -> x.crowd(8, 0));
        due.fine("crowd(7, 0)", () -> x.crowd(7, 0));
        due.is("all CROWD but its", 140000, x.count(4));
    }

    private static void notShutAtFirst(Due due) {
        due.of("PLACES: SHUT or not (not)");
        for (int i = 0; i < 8; i++) {
            FestivalFields x = new FestivalFields();
            for (int k = 0; k <= i; k++) {
                x.place(0, 1);
            }
            due.no("shut(" + i + ", false)", x.shut(i, false));
            due.yes("shut(" + i + ", true)", x.shut(i, true));
        }
    }

    private static void crowdWithin(Due due) {
        due.of("10: CROWD of a PLACE");
        FestivalFields x = new FestivalFields();
        for (int i = 0; i < 8; i++) {
            x.place(100, 0);
        }
        due.fine("crowd(0, 0)", () -> x.crowd(0, 0));
        due.is("700", 700, x.count(4));
        due.fine("crowd(0, 20000)", () -> x.crowd(0, 20000));
        due.is("20700", 20700, x.count(4));
        due.fine("crowd(7, 20000)", () -> x.crowd(7, 20000));
        due.is("40600", 40600, x.count(4));
        due.fine("crowd(7, 20000) again", () -> x.crowd(7, 20000));
        due.is("40600", 40600, x.count(4));
        due.fine("crowd(7, 1)", () -> x.crowd(7, 1));
        due.is("20601", 20601, x.count(4));
        due.fine("crowd(7, 0)", () -> x.crowd(7, 0));
        due.is("20600", 20600, x.count(4));
        due.of("10: of that PLACE alone");
        FestivalFields y = new FestivalFields();
        y.place(6, 1);
        y.place(6, 2);
        y.crowd(1, 20);
        due.is("twenty by two", 10, y.empty());
        y.crowd(1, 0);
        due.is("six by one", 6, y.empty());
        y.crowd(0, 0);
        due.is("nobody", 0, y.empty());
    }

    private static void crowdBeyond(Due due) {
        due.of("10: IllegalArgumentException: it is none");
        FestivalFields x = new FestivalFields();
        x.place(12, 4);
        for (int wrong : new int[] {-1, 20001, -20000, MAX, MIN}) {
            due.illegal("crowd(0, " + wrong + ")", () -> x.crowd(0, wrong));
        }
        due.is("it is as it was", 12, x.count(4));
        due.is("so is EMPTY", 3, x.empty());
    }

    private static void noSuchPlaceForCrowd(Due due) {
        due.of("10: IndexOutOfBoundsException: there is no such PLACE");
        FestivalFields none = new FestivalFields();
        due.outOfBounds("of none: crowd(0, 0)", () -> none.crowd(0, 0));
        for (int n = 1; n <= 8; n++) {
            FestivalFields x = withPlaces(n);
            int places = n;
            for (int wrong : new int[] {-1, places, 8, MAX, MIN}) {
                due.outOfBounds("of " + n + ": crowd(" + wrong + ", 5)", () -> x.crowd(wrong, 5));
                due.outOfBounds("the PLACE is told first", () -> x.crowd(wrong, -1));
                due.outOfBounds("the PLACE is told first", () -> x.crowd(wrong, 20001));
            }
            due.is("nobody came", 0, x.count(4));
            due.fine("of " + n + ": the last", () -> x.crowd(places - 1, 5));
            due.is("five came", 5, x.count(4));
        }
    }

    private static void shuts(Due due) {
        due.of("11: a PLACE is SHUT, or not: whether it was otherwise");
        FestivalFields x = new FestivalFields();
        x.place(4, 4);
        x.place(4, 4);
        due.no("it is not", x.shut(1, false));
        due.yes("it was not", x.shut(1, true));
        due.no("it is", x.shut(1, true));
        due.is("it has no way out", NONE, x.empty());
        due.yes("the other one", x.shut(0, true));
        due.yes("it was", x.shut(1, false));
        due.no("it is not", x.shut(1, false));
        due.is("the other one is still", NONE, x.empty());
        due.yes("the other one was", x.shut(0, false));
        due.is("both are open", 1, x.empty());
        due.of("11: also of a PLACE that is no GATE");
        x.place(0, 0);
        due.yes("it was not", x.shut(2, true));
        due.no("it is", x.shut(2, true));
        due.yes("it was", x.shut(2, false));
    }

    private static void noSuchPlaceForShut(Due due) {
        due.of("11: IndexOutOfBoundsException: there is no such PLACE");
        FestivalFields none = new FestivalFields();
        due.outOfBounds("of none: shut(0, true)", () -> none.shut(0, true));
        due.outOfBounds("of none: shut(0, false)", () -> none.shut(0, false));
        FestivalFields x = withPlaces(3);
        for (int wrong : new int[] {-1, 3, 7, 8, MAX, MIN}) {
            due.outOfBounds("shut(" + wrong + ", true)", () -> x.shut(wrong, true));
            due.outOfBounds("shut(" + wrong + ", false)", () -> x.shut(wrong, false));
        }
        x.place(0, 0);
        due.no("the next PLACE is not SHUT by that", x.shut(3, false));
        FestivalFields full = withPlaces(8);
        due.yes("of 8: the last", full.shut(7, true));
        due.outOfBounds("of 8: shut(8, true)", () -> full.shut(8, true));
    }

    private static void noSuchPlaceForWay(Due due) {
        due.of("12: IndexOutOfBoundsException: there is no such PLACE");
        FestivalFields none = new FestivalFields();
        due.outOfBounds("of none: way(0, 1)", () -> none.way(0, 1, 1, 1));
        FestivalFields one = withPlaces(1);
        due.outOfBounds("of one: way(0, 1)", () -> one.way(0, 1, 1, 1));
        due.outOfBounds("of one: way(1, 0)", () -> one.way(1, 0, 1, 1));
        due.illegal("of one: way(0, 0)", () -> one.way(0, 0, 1, 1));
        for (int n = 2; n <= 8; n++) {
            FestivalFields x = withPlaces(n);
            for (int wrong : new int[] {-1, n, 8, MAX, MIN}) {
                due.outOfBounds("of " + n + ": way(0, " + wrong + ")", () -> x.way(0, wrong, 1, 1));
                due.outOfBounds("of " + n + ": way(" + wrong + ", 0)", () -> x.way(wrong, 0, 1, 1));
                due.outOfBounds("both", () -> x.way(wrong, wrong, 1, 1));
            }
            due.is("none came", 0, x.count(5));
            due.is("of " + n + ": the first and the last", 0, x.way(0, n - 1, 1, 1));
            due.is("and back", 1, x.way(n - 1, 0, 1, 1));
        }
    }

    private static void bothPlacesAreOne(Due due) {
        due.of("12: IllegalArgumentException: both PLACES are one");
        FestivalFields x = withPlaces(8);
        for (int place = 0; place < 8; place++) {
            int both = place;
            due.illegal("way(" + both + ", " + both + ")", () -> x.way(both, both, 8, 2000));
        }
        due.is("none came", 0, x.count(5));
        due.is("the first has the first number", 0, x.way(7, 6, 1, 1));
    }

    private static void lengths(Due due) {
        due.of("WAYS: LENGTH (1 to 8 minutes)");
        for (int length = 1; length <= 8; length++) {
            FestivalFields x = new FestivalFields();
            x.place(1, 0);
            x.place(0, 1);
            due.is("LENGTH " + length, 0, x.way(0, 1, length, 1));
            due.is("LENGTH " + length + ": empty()", length + 1, x.empty());
        }
        due.of("12: IllegalArgumentException: a number is none (LENGTH)");
        FestivalFields x = new FestivalFields();
        x.place(1, 0);
        x.place(0, 1);
        for (int wrong : new int[] {0, 9, -1, -8, MAX, MIN}) {
            due.illegal("LENGTH " + wrong, () -> x.way(0, 1, wrong, 1));
            due.illegal("LENGTH " + wrong, () -> x.way(1, 0, wrong, 2000));
        }
        due.is("none came", 0, x.count(5));
        due.is("none can be out", NONE, x.empty());
    }

    private static void wides(Due due) {
        due.of("WAYS: WIDE (1 to 2000 each minute, in each direction)");
        for (int wide : new int[] {1, 2, 1999, 2000}) {
            for (int from = 0; from < 2; from++) {
                FestivalFields x = new FestivalFields();
                x.place(from == 0 ? 3 * wide : 0, from == 0 ? 0 : 2000);
                x.place(from == 1 ? 3 * wide : 0, from == 1 ? 0 : 2000);
                due.is("WIDE " + wide, 0, x.way(0, 1, 1, wide));
                due.is("WIDE " + wide + ": three minutes of it", 4, x.empty());
                x.crowd(from, 3 * wide + 1);
                due.is("WIDE " + wide + ": one more", 5, x.empty());
            }
        }
        due.of("12: IllegalArgumentException: a number is none (WIDE)");
        FestivalFields x = new FestivalFields();
        x.place(1, 0);
        x.place(0, 1);
        for (int wrong : new int[] {0, 2001, -1, -2000, MAX, MIN}) {
            due.illegal("WIDE " + wrong, () -> x.way(0, 1, 1, wrong));
            due.illegal("WIDE " + wrong, () -> x.way(1, 0, 8, wrong));
        }
        due.is("none came", 0, x.count(5));
        due.is("none can be out", NONE, x.empty());
        due.is("the first has the first number", 0, x.way(0, 1, 1, 1));
    }

    private static void fourteenWays(Due due) {
        due.of("12: UnsupportedOperationException: there are 14");
        FestivalFields x = new FestivalFields();
        x.place(14 * 30, 0);
        x.place(0, 2000);
        x.place(0, 2000);
        for (int i = 0; i < 14; i++) {
            due.is("way", i, x.way(0, 1, 1, 10));
            due.is("how many", i + 1, x.count(5));
        }
        due.is("ten over each, three minutes", 4, x.empty());
        due.unsupported("the 15th", () -> x.way(0, 1, 1, 2000));
        due.unsupported("the 15th", () -> x.way(2, 0, 1, 2000));
        due.is("WAYS", 14, x.count(5));
        due.is("as before", 4, x.empty());
        FestivalFields y = new FestivalFields();
        y.place(3, 0);
        y.place(0, 0);
        y.place(0, 5);
        for (int i = 0; i < 13; i++) {
            y.way(0, 1, 1, 1);
        }
        due.is("the 14th", 13, y.way(0, 2, 5, 1));
        due.is("the only one to a gate", 8, y.empty());
        for (int length : new int[] {1, 8}) {
            due.unsupported("the 15th", () -> y.way(0, 2, length, 3));
            due.unsupported("the 15th", () -> y.way(2, 1, length, 3));
            due.is("as before", 8, y.empty());
        }
        due.outOfBounds("no act over a 15th", () -> x.act(14, false, 0, 0));
        due.is("an act over the 14th", 0, x.act(13, false, 0, 11));
        due.is("its WIDE", 10, x.tooMany());
    }

    private static void whatIsToldFirst(Due due) {
        due.of("12: of several exceptions the one told first is thrown");
        FestivalFields x = withPlaces(2);
        due.outOfBounds("PLACE and LENGTH", () -> x.way(0, 2, 0, 1));
        due.outOfBounds("PLACE and WIDE", () -> x.way(-1, 0, 1, 2001));
        due.outOfBounds("PLACE, and both are one", () -> x.way(2, 2, 1, 1));
        for (int i = 0; i < 14; i++) {
            x.way(0, 1, 1, 1);
        }
        due.outOfBounds("of 14: PLACE", () -> x.way(0, 2, 1, 1));
        due.outOfBounds("of 14: PLACE", () -> x.way(-1, 1, 1, 1));
        due.outOfBounds("of 14: all", () -> x.way(2, 2, 0, 0));
        due.illegal("of 14: both are one", () -> x.way(1, 1, 1, 1));
        due.illegal("of 14: LENGTH", () -> x.way(0, 1, 9, 1));
        due.illegal("of 14: WIDE", () -> x.way(0, 1, 1, 0));
        due.unsupported("of 14: nothing else", () -> x.way(0, 1, 1, 1));
    }
}
