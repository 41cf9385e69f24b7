/** What it is: an object is used for at most 512 calls: the 512th answers as the first ones do. */
public final class BoundsCallsTest {
    private static final int CALLS = 512;
    private static final int MAX = Integer.MAX_VALUE;

    private final Due due = new Due();

    public static void main(String[] args) {
        BoundsCallsTest t = new BoundsCallsTest();
        t.due.of("an object is used for at most 512 calls (the 512th)");
        t.eachAsTheLast();
        t.feeds();
        t.lanesOnAndOff();
        t.tentsAndStrikes();
        t.crowdsAndWorst();
        t.actsAndShifts();
        t.licences();
        t.refusals();
        t.due.end();
    }

    /** A call as the 512th of a new object, behind 511 that change nothing; and what is due then. */
    private void last(String call, String answer, RefusalsTest.Ask ask) {
        FestivalFields x = new FestivalFields();
        for (int i = 1; i < CALLS; i++) {
            x.count(i % 10);
        }
        due.same(call, answer, Due.text(() -> ask.of(x)));
    }

    private static long one(boolean is) {
        return is ? 1 : 0;
    }

    private static long done(Due.Act act) {
        act.run();
        return 0;
    }

    private void eachAsTheLast() {
        String outOfBounds = "throws.IndexOutOfBoundsException";
        String illegal = "throws.IllegalArgumentException";
        last("feed", "20", x -> x.feed(1, 2, 3, 4, 5));
        last("end", "1", x -> one(x.end(0)));
        last("lane", "1", x -> one(x.lane(191, true)));
        last("gate", "0", x -> done(() -> x.gate(191)));
        last("gate", outOfBounds, x -> done(() -> x.gate(192)));
        last("tent", "0", x -> x.tent(5, 5));
        last("strike", outOfBounds, x -> one(x.strike(0)));
        last("at", "-1", x -> x.at(191));
        last("place", "0", x -> x.place(20000, 2000));
        last("crowd", outOfBounds, x -> done(() -> x.crowd(0, 0)));
        last("shut", outOfBounds, x -> one(x.shut(0, true)));
        last("way", outOfBounds, x -> x.way(0, 1, 1, 1));
        last("empty", "0", FestivalFields::empty);
        last("worst", "-1", FestivalFields::worst);
        last("act", outOfBounds, x -> x.act(0, true, 0, 0));
        last("tooMany", "0", FestivalFields::tooMany);
        last("shift", outOfBounds, x -> x.shift(0));
        last("forget", "0", FestivalFields::forget);
        last("minutes", "2000", x -> x.minutes(2000));
        last("pass", "0", x -> x.pass(299, true, 0));
        last("inside", "0", x -> one(x.inside(299, MAX, MAX)));
        last("within", "0", x -> x.within(true, MAX, MAX));
        last("noise", "0", x -> done(() -> x.noise(23, 200)));
        last("noise", illegal, x -> done(() -> x.noise(24, 200)));
        last("licence", illegal, FestivalFields::licence);
        last("fault", "-1", FestivalFields::fault);
        last("broken", "-1", FestivalFields::broken);
        last("count", "0", x -> x.count(9));
    }

    private void feeds() {
        FestivalFields x = new FestivalFields();
        for (int i = 0; i < CALLS / 2; i++) {
            due.is("feed " + i, 20 + i % 2 * 20, x.feed(i, i, i, i, i));
            due.yes("end " + i, x.end(i % 2 == 0 ? 20 : 0));
        }
    }

    private void lanesOnAndOff() {
        FestivalFields x = new FestivalFields();
        for (int i = 0; i < CALLS / 4; i++) {
            due.yes("lane on", x.lane(i, true));
            due.is("at", -2, x.at(i));
            due.yes("lane off", x.lane(i, false));
            due.is("count(9)", 0, x.count(9));
        }
    }

    private void tentsAndStrikes() {
        FestivalFields x = new FestivalFields();
        for (int i = 0; i < 60; i++) {
            x.tent(1 + i % 5, 1 + i % 4);
            due.yes("strike", x.strike(i));
        }
        for (int i = 120; i < CALLS - 1; i++) {
            due.unsupported("tent", () -> x.tent(1, 1));
        }
        due.is("count(1)", 0, x.count(1));
    }

    private void crowdsAndWorst() {
        FestivalFields x = new FestivalFields();
        x.place(0, 1);
        x.place(0, 1);
        x.way(0, 1, 1, 2000);
        for (int i = 3; i + 3 <= CALLS; i += 3) {
            int n = i % 41;
            x.crowd(0, n);
            due.is("empty of " + n, n <= 1 ? n : (n + 2) / 2, x.empty());
            due.is("worst of " + n, n == 0 ? 0 : n == 40 ? -1 : n + 1, x.worst());
        }
    }

    private void actsAndShifts() {
        FestivalFields x = new FestivalFields();
        x.place(0, 0);
        x.place(0, 0);
        x.way(0, 1, 1, 50);
        for (int i = 3; i + 5 <= CALLS; i += 5) {
            due.is("act", 0, x.act(0, i % 2 == 0, i, 50));
            due.is("act", 1, x.act(0, i % 2 == 0, i + 5, 50));
            due.is("tooMany", 0, x.tooMany());
            due.is("shift(1)", 10, x.shift(1));
            due.is("forget", 2, x.forget());
        }
    }

    private void licences() {
        FestivalFields x = new FestivalFields();
        for (int i = 0; i + 4 <= CALLS; i += 4) {
            String text = i % 8 == 0 ? "tents " + i % 61 : "tents " + (61 + i % 30);
            Due.tape(x, text);
            due.same("licence of " + text, i % 8 == 0 ? "1" : "throws.IllegalArgumentException", Due.text(x::licence));
            due.is("fault of " + text, i % 8 == 0 ? -1 : 6, x.fault());
        }
    }

    private void refusals() {
        FestivalFields x = new FestivalFields();
        for (int i = 1; i < CALLS; i++) {
            int n = -i;
            due.illegal("place", () -> x.place(n, 0));
        }
        due.is("place", 0, x.place(0, 0));
    }
}
