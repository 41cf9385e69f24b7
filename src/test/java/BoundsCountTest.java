/** Promise 27 at its bounds: each count of nothing and of all that there may be, and a what that is none. */
public final class BoundsCountTest {
    private static final int NONE = FestivalFields.NONE;

    public static void main(String[] args) {
        Due due = new Due();
        nothingThere(due);
        noSuchWhat(due);
        nows(due);
        tents(due);
        lanes(due);
        placesAndWays(due);
        actsAndPasses(due);
        terms(due);
        due.end();
    }

    /** All counts that are not told here are 0. */
    private static void counts(Due due, String call, FestivalFields x, int[] whats, int... dues) {
        for (int what = 0; what <= 9; what++) {
            int wanted = 0;
            for (int i = 0; i < whats.length; i++) {
                wanted = whats[i] == what ? dues[i] : wanted;
            }
            due.is(call + ": count(" + what + ")", wanted, x.count(what));
        }
    }

    private static void nothingThere(Due due) {
        due.of("1, 27: of a new object");
        counts(due, "new", new FestivalFields(), new int[0]);
    }

    private static void noSuchWhat(Due due) {
        due.of("27: NONE for another what");
        FestivalFields x = new FestivalFields();
        for (int what : new int[] {-1, 10, -2, 11, 26, 256, 65536, Integer.MAX_VALUE, Integer.MIN_VALUE}) {
            due.is("count(" + what + ")", NONE, x.count(what));
        }
    }

    private static void nows(Due due) {
        due.of("27: 0 NOW");
        FestivalFields x = new FestivalFields();
        x.minutes(1);
        counts(due, "one minute", x, new int[] {0}, 1);
        for (int i = 0; i < 6; i++) {
            x.minutes(2000);
        }
        counts(due, "the last minute", x, new int[] {0}, 10000);
    }

    private static void tents(Due due) {
        due.of("27: 1 TENTS that stand, 2 SQUARES with one");
        FestivalFields x = new FestivalFields();
        x.tent(5, 4);
        counts(due, "one", x, new int[] {1, 2}, 1, 20);
        x.strike(0);
        counts(due, "it is down", x, new int[] {1, 2}, 0, 0);
        for (int i = 1; i < 60; i++) {
            x.tent(3, 1);
        }
        counts(due, "59 stand", x, new int[] {1, 2}, 59, 177);
        FestivalFields y = new FestivalFields();
        for (int i = 0; i < 60; i++) {
            y.tent(1, 3);
        }
        counts(due, "60 stand", y, new int[] {1, 2}, 60, 180);
        FestivalFields z = new FestivalFields();
        for (int i = 0; i < 12; i++) {
            z.tent(4, 4);
        }
        counts(due, "all SQUARES", z, new int[] {1, 2}, 12, 192);
    }

    private static void lanes(Due due) {
        due.of("27: 9 LANE SQUARES");
        FestivalFields x = new FestivalFields();
        x.lane(0, true);
        counts(due, "the first", x, new int[] {9}, 1);
        x.lane(191, true);
        counts(due, "and the last", x, new int[] {9}, 2);
        for (int square = 1; square < 191; square++) {
            x.lane(square, true);
        }
        counts(due, "all", x, new int[] {9}, 192);
        x.lane(100, false);
        counts(due, "all but one", x, new int[] {9}, 191);
        x.tent(1, 1);
        counts(due, "and a TENT", x, new int[] {1, 2, 9}, 1, 1, 191);
    }

    private static void placesAndWays(Due due) {
        due.of("27: 3 PLACES, 4 all CROWD, 5 WAYS");
        FestivalFields x = new FestivalFields();
        for (int i = 0; i < 8; i++) {
            x.place(20000, 2000);
            counts(due, "place " + i, x, new int[] {3, 4}, i + 1, 20000 * (i + 1));
        }
        for (int i = 0; i < 14; i++) {
            x.way(i % 8, (i + 1) % 8, 8, 2000);
            due.is("way " + i, i + 1, x.count(5));
        }
        counts(due, "all", x, new int[] {3, 4, 5}, 8, 160000, 14);
        x.shut(0, true);
        counts(due, "one SHUT", x, new int[] {3, 4, 5}, 8, 160000, 14);
        for (int i = 0; i < 8; i++) {
            x.crowd(i, 0);
        }
        counts(due, "nobody", x, new int[] {3, 4, 5}, 8, 0, 14);
    }

    private static void actsAndPasses(Due due) {
        due.of("27: 6 ACTS, 7 PASSES");
        FestivalFields x = new FestivalFields();
        x.place(0, 0);
        x.place(0, 0);
        x.way(0, 1, 1, 1);
        for (int i = 0; i < 6; i++) {
            due.is("ACTS", i, x.count(6));
            x.act(0, false, 0, 0);
        }
        counts(due, "all ACTS", x, new int[] {3, 5, 6}, 2, 1, 6);
        x.forget();
        counts(due, "none", x, new int[] {3, 5, 6}, 2, 1, 0);
        for (int i = 0; i < 200; i++) {
            x.pass(7, true, 0);
            due.is("PASSES", i + 1, x.count(7));
        }
        counts(due, "all PASSES", x, new int[] {3, 5, 7}, 2, 1, 200);
    }

    private static void terms(Due due) {
        due.of("27: 8 TERMS of the LICENCE");
        for (int n = 1; n <= 12; n++) {
            FestivalFields x = new FestivalFields();
            Due.tape(x, "tents 1" + ";tents 1".repeat(n - 1));
            counts(due, "not yet read", x, new int[] {8}, 0);
            x.licence();
            counts(due, n + " TERMS", x, new int[] {8}, n);
        }
    }
}
