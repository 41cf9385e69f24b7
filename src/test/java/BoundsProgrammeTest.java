/** Promises 15 to 18 at their bounds: ACTS' numbers, ten minutes, the three shifts, six ACTS, and what is refused. */
public final class BoundsProgrammeTest {
    private static final int NONE = FestivalFields.NONE;
    private static final int MAX = Integer.MAX_VALUE;
    private static final int MIN = Integer.MIN_VALUE;

    public static void main(String[] args) {
        Due due = new Due();
        nothingThere(due);
        numbersWithin(due);
        numbersBeyond(due);
        noSuchWay(due);
        whatIsToldFirst(due);
        sixActs(due);
        aboveWide(due);
        tenMinutes(due);
        threeShifts(due);
        lastMinutes(due);
        allWaysAndDirections(due);
        leastTooMany(due);
        leastSumOfShifts(due);
        firstActsLeast(due);
        noSuchAct(due);
        shiftsAskedFirst(due);
        forgets(due);
        due.end();
    }

    /** Two PLACES and WAYS of these WIDES between them. */
    private static FestivalFields withWays(int... wides) {
        FestivalFields x = new FestivalFields();
        x.place(0, 0);
        x.place(0, 0);
        for (int wide : wides) {
            x.way(0, 1, 1, wide);
        }
        return x;
    }

    private static void shifts(Due due, FestivalFields x, int tooMany, int... shifts) {
        due.is("tooMany()", tooMany, x.tooMany());
        for (int i = 0; i < shifts.length; i++) {
            due.is("shift(" + i + ")", shifts[i], x.shift(i));
        }
    }

    private static void nothingThere(Due due) {
        due.of("16: TOO MANY with the BEST shifts (no ACTS)");
        due.is("no WAY", 0, new FestivalFields().tooMany());
        FestivalFields x = withWays(1);
        due.is("a WAY", 0, x.tooMany());
        due.is("ACTS", 0, x.count(6));
        due.of("17: IndexOutOfBoundsException: there is no such ACT (no ACTS)");
        for (int act : new int[] {0, -1, 1, 5, 6, MAX, MIN}) {
            due.outOfBounds("shift(" + act + ")", () -> x.shift(act));
        }
        due.of("18: how many there were (no ACTS)");
        due.is("forget()", 0, x.forget());
    }

    private static void numbersWithin(Due due) {
        due.of("ACTS: ENDS at a minute (0 to 1000), people (0 to 1000 each minute)");
        FestivalFields x = withWays(1);
        due.is("act(0, false, 0, 0)", 0, x.act(0, false, 0, 0));
        shifts(due, x, 0, 0);
        due.is("act(0, false, 1000, 1000)", 1, x.act(0, false, 1000, 1000));
        shifts(due, x, 9990, 0, 0);
        due.is("act(0, true, 0, 1000)", 2, x.act(0, true, 0, 1000));
        shifts(due, x, 19980, 0, 0, 0);
        due.is("act(0, true, 1000, 1)", 3, x.act(0, true, 1000, 1));
        shifts(due, x, 19980, 0, 0, 0, 0);
        due.is("act(0, true, 999, 1)", 4, x.act(0, true, 999, 999));
        shifts(due, x, 29960, 0, 0, 0, 10, 0);
    }

    private static void numbersBeyond(Due due) {
        due.of("15: IllegalArgumentException: a number is none");
        FestivalFields x = withWays(1);
        x.act(0, false, 5, 7);
        for (int wrong : new int[] {-1, 1001, -1000, MAX, MIN}) {
            due.illegal("ENDS " + wrong, () -> x.act(0, false, wrong, 0));
            due.illegal("ENDS " + wrong, () -> x.act(0, true, wrong, 1000));
            due.illegal("people " + wrong, () -> x.act(0, false, 0, wrong));
            due.illegal("people " + wrong, () -> x.act(0, true, 1000, wrong));
            due.illegal("both " + wrong, () -> x.act(0, true, wrong, wrong));
        }
        due.is("one ACT, as before", 1, x.count(6));
        shifts(due, x, 60, 0);
        due.is("the next number", 1, x.act(0, false, 500, 3));
        shifts(due, x, 80, 0, 0);
    }

    private static void noSuchWay(Due due) {
        due.of("15: IndexOutOfBoundsException: there is no such WAY");
        FestivalFields none = withWays();
        due.outOfBounds("of none: act(0, ..)", () -> none.act(0, false, 0, 0));
        due.outOfBounds("of none: act(0, true, ..)", () -> none.act(0, true, 0, 0));
        FestivalFields x = withWays(1, 2);
        for (int wrong : new int[] {-1, 2, 13, 14, MAX, MIN}) {
            due.outOfBounds("of two: act(" + wrong + ", ..)", () -> x.act(wrong, false, 0, 0));
            due.outOfBounds("of two: act(" + wrong + ", true, ..)", () -> x.act(wrong, true, 0, 0));
        }
        due.is("none came", 0, x.count(6));
        due.is("of two: the last", 0, x.act(1, true, 0, 3));
        shifts(due, x, 10, 0);
        FestivalFields full = withWays(1, 1, 1, 1, 1, 1, 1, 1, 1, 1, 1, 1, 1, 5);
        due.outOfBounds("of 14: act(14, ..)", () -> full.act(14, false, 0, 0));
        due.is("of 14: the last", 0, full.act(13, false, 0, 6));
        due.is("of 14: the last, back", 1, full.act(13, true, 0, 7));
        shifts(due, full, 30, 0, 0);
    }

    private static void whatIsToldFirst(Due due) {
        due.of("15: of several exceptions the one told first is thrown");
        FestivalFields x = withWays(1);
        due.outOfBounds("WAY and ENDS", () -> x.act(1, false, -1, 0));
        due.outOfBounds("WAY and people", () -> x.act(-1, false, 0, 1001));
        for (int i = 0; i < 6; i++) {
            x.act(0, false, 0, 0);
        }
        due.outOfBounds("of six: WAY", () -> x.act(1, false, 0, 0));
        due.illegal("of six: ENDS", () -> x.act(0, false, 1001, 0));
        due.illegal("of six: people", () -> x.act(0, false, 0, -1));
    }

    private static void sixActs(Due due) {
        due.of("15: NONE, and it does not come, if there are 6");
        FestivalFields x = withWays(1);
        for (int i = 0; i < 6; i++) {
            due.is("act", i, x.act(0, false, 100 * i, 2 + i));
        }
        shifts(due, x, 210, 0, 0, 0, 0, 0, 0);
        due.is("the seventh", NONE, x.act(0, true, 700, 1000));
        due.is("the seventh again", NONE, x.act(0, false, 0, 0));
        due.is("ACTS", 6, x.count(6));
        shifts(due, x, 210, 0, 0, 0, 0, 0, 0);
        due.outOfBounds("shift(6)", () -> x.shift(6));
        due.is("forget()", 6, x.forget());
        due.is("the first again", 0, x.act(0, false, 0, 3));
        shifts(due, x, 20, 0);
    }

    private static void aboveWide(Due due) {
        due.of("TOO MANY: what is sent above WIDE");
        for (int wide : new int[] {1, 2, 500, 999}) {
            FestivalFields x = withWays(wide);
            x.act(0, false, 0, wide - 1);
            shifts(due, x, 0, 0);
            x.forget();
            x.act(0, false, 0, wide);
            shifts(due, x, 0, 0);
            x.forget();
            x.act(0, false, 0, wide + 1);
            shifts(due, x, 10, 0);
        }
        FestivalFields x = withWays(2000);
        for (int i = 0; i < 6; i++) {
            x.act(0, false, 0, 1000);
        }
        shifts(due, x, 0, 0, 0, 10, 10, 20, 20);
    }

    /** Two ACTS so many minutes apart, of which the later one cannot be shifted out of a third one's minutes. */
    private static void tenMinutes(Due due) {
        due.of("ACTS: for 10 minutes: that one and nine more");
        for (int apart = 0; apart <= 11; apart++) {
            FestivalFields x = withWays(50);
            x.act(0, false, 100, 50);
            x.act(0, false, 100 + apart, 50);
            shifts(due, x, 0, 0, apart < 10 ? 10 : 0);
            FestivalFields y = withWays(50);
            y.act(0, false, 100 + apart, 50);
            y.act(0, false, 100, 50);
            shifts(due, y, 0, apart == 0 || apart >= 10 ? 0 : 10, apart == 0 ? 10 : 0);
        }
        FestivalFields x = withWays(10);
        x.act(0, false, 0, 11);
        due.is("one above, ten times", 10, x.tooMany());
        x.act(0, false, 500, 1000);
        due.is("990 above, ten times more", 9910, x.tooMany());
    }

    private static void threeShifts(Due due) {
        due.of("ACTS: each may be shifted by 0, 10 or 20 minutes later");
        FestivalFields x = withWays(50);
        x.act(0, false, 100, 50);
        shifts(due, x, 0, 0);
        x.act(0, false, 100, 50);
        shifts(due, x, 0, 0, 10);
        x.act(0, false, 100, 50);
        shifts(due, x, 0, 0, 10, 20);
        x.act(0, false, 100, 50);
        shifts(due, x, 500, 0, 0, 10, 20);
        FestivalFields y = withWays(50);
        y.act(0, false, 100, 50);
        y.act(0, false, 105, 50);
        y.act(0, false, 110, 50);
        y.act(0, false, 115, 50);
        // In 100, 115, 125 and 135; not by five minutes, nor ahead of their time.
        shifts(due, y, 0, 0, 20, 0, 20);
    }

    private static void lastMinutes(Due due) {
        due.of("TOO MANY: all minutes (the last ACTS, shifted by 20)");
        FestivalFields x = withWays(1000);
        for (int i = 0; i < 3; i++) {
            x.act(0, false, 1000, 1000);
        }
        shifts(due, x, 0, 0, 10, 20);
        x.act(0, false, 1000, 1);
        shifts(due, x, 10, 0, 10, 20, 0);
        FestivalFields y = withWays(1);
        for (int i = 0; i < 6; i++) {
            y.act(0, false, 1000, 1000);
        }
        shifts(due, y, 59970, 0, 0, 0, 0, 10, 20);
        FestivalFields z = withWays(1);
        for (int i = 0; i < 6; i++) {
            z.act(0, false, 0, 1000);
        }
        shifts(due, z, 59970, 0, 0, 0, 0, 10, 20);
    }

    private static void allWaysAndDirections(Due due) {
        due.of("TOO MANY: over all WAYS, both directions");
        FestivalFields x = withWays(10, 20, 30);
        x.act(0, false, 0, 11);
        x.act(0, true, 0, 12);
        x.act(1, false, 0, 23);
        x.act(1, true, 0, 24);
        x.act(2, false, 0, 35);
        x.act(2, true, 0, 36);
        shifts(due, x, 210, 0, 0, 0, 0, 0, 0);
        due.of("ACTS: in one direction (from its first PLACE, or back)");
        FestivalFields y = withWays(10);
        y.act(0, false, 0, 10);
        y.act(0, true, 0, 10);
        y.act(0, true, 0, 10);
        shifts(due, y, 0, 0, 0, 10);
        y.act(0, false, 0, 10);
        shifts(due, y, 0, 0, 0, 10, 10);
        due.of("ACTS: over one WAY");
        FestivalFields z = withWays(10, 10);
        z.act(0, false, 0, 10);
        z.act(1, false, 0, 10);
        shifts(due, z, 0, 0, 0);
    }

    private static void leastTooMany(Due due) {
        due.of("BEST shifts: those of the least TOO MANY");
        FestivalFields x = withWays(50);
        x.act(0, false, 0, 50);
        x.act(0, false, 10, 50);
        x.act(0, false, 0, 1);
        // Ten above by 0, 0, 0; none by 0, 0, 20 alone of those that leave the others.
        shifts(due, x, 0, 0, 0, 20);
        x.act(0, false, 20, 50);
        // The one person goes where nobody else does, into 20; then the last ACT goes behind that.
        shifts(due, x, 0, 0, 0, 20, 10);
    }

    private static void leastSumOfShifts(Due due) {
        due.of("BEST shifts: of several the least sum of shifts");
        FestivalFields x = withWays(50);
        x.act(0, false, 5, 50);
        x.act(0, false, 0, 50);
        shifts(due, x, 0, 10, 0);
        x.forget();
        x.act(0, false, 9, 50);
        x.act(0, false, 0, 50);
        shifts(due, x, 0, 10, 0);
        x.forget();
        x.act(0, false, 0, 51);
        x.act(0, true, 0, 1);
        due.of("BEST shifts: no shift that gains nothing");
        shifts(due, x, 10, 0, 0);
    }

    private static void firstActsLeast(Due due) {
        due.of("BEST shifts: of these those in which the first ACT's is least, then the second one's, and so on");
        FestivalFields x = withWays(50);
        x.act(0, false, 0, 50);
        x.act(0, false, 0, 50);
        shifts(due, x, 0, 0, 10);
        x.act(0, true, 0, 50);
        x.act(0, true, 0, 50);
        x.act(0, true, 0, 50);
        shifts(due, x, 0, 0, 10, 0, 10, 20);
        FestivalFields y = withWays(50);
        y.act(0, true, 0, 50);
        y.act(0, false, 0, 50);
        y.act(0, false, 0, 50);
        y.act(0, true, 0, 50);
        shifts(due, y, 0, 0, 0, 10, 10);
    }

    private static void noSuchAct(Due due) {
        due.of("17: IndexOutOfBoundsException: there is no such ACT");
        FestivalFields x = withWays(1);
        for (int n = 1; n <= 6; n++) {
            x.act(0, false, 100 * n, 2);
            for (int wrong : new int[] {-1, n, 6, MAX, MIN}) {
                due.outOfBounds("of " + n + ": shift(" + wrong + ")", () -> x.shift(wrong));
            }
            due.is("of " + n + ": the first", 0, x.shift(0));
            due.is("of " + n + ": the last", 0, x.shift(n - 1));
        }
        due.is("as many as before", 6, x.count(6));
    }

    private static void shiftsAskedFirst(Due due) {
        due.of("17: the BEST shift of an ACT (nothing else was asked before)");
        FestivalFields x = withWays(10);
        x.act(0, false, 0, 10);
        x.act(0, false, 0, 10);
        x.act(0, false, 0, 10);
        due.is("shift(2)", 20, x.shift(2));
        due.is("shift(1)", 10, x.shift(1));
        due.is("shift(0)", 0, x.shift(0));
        x.act(0, false, 10, 10);
        due.is("shift(3) of four", 20, x.shift(3));
        due.is("shift(2) of four", 20, x.shift(2));
        due.is("shift(1) of four", 10, x.shift(1));
        x.forget();
        x.act(0, false, 0, 10);
        due.is("shift(0) behind forget()", 0, x.shift(0));
    }

    private static void forgets(Due due) {
        due.of("18: no ACTS any more: how many there were");
        FestivalFields x = withWays(10);
        for (int n = 0; n <= 6; n++) {
            for (int i = 0; i < n; i++) {
                x.act(0, false, 0, 10);
            }
            due.is("ACTS", n, x.count(6));
            due.is("forget()", n, x.forget());
            due.is("forget() again", 0, x.forget());
            due.is("ACTS", 0, x.count(6));
            due.is("tooMany()", 0, x.tooMany());
            due.outOfBounds("shift(0)", () -> x.shift(0));
        }
        due.is("WAYS stay", 1, x.count(5));
        due.of("18: the ACTS behind it have nothing of those before");
        x.act(0, false, 0, 20);
        x.act(0, false, 0, 20);
        shifts(due, x, 200, 0, 10);
        due.is("forget()", 2, x.forget());
        due.is("tooMany() of none", 0, x.tooMany());
        x.act(0, false, 0, 10);
        x.act(0, false, 5, 10);
        shifts(due, x, 0, 0, 10);
        x.forget();
        x.act(0, true, 7, 11);
        shifts(due, x, 10, 0);
    }
}
