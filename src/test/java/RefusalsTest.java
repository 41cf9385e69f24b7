import java.util.List;

/**
 * Promises 2 to 27: a call that is refused, by its answer or by what it throws, leaves all as it was, and so does one
 * that only asks. An object that had the call is compared, by all that can be seen, with one that had it not.
 */
public final class RefusalsTest {
    private static final int MAX = Integer.MAX_VALUE;
    private static final int MIN = Integer.MIN_VALUE;
    private static final String NONE = "-1";
    private static final String FALSE = "0";
    private static final String OUT_OF_BOUNDS = "throws.IndexOutOfBoundsException";
    private static final String ILLEGAL = "throws.IllegalArgumentException";
    private static final String UNSUPPORTED = "throws.UnsupportedOperationException";

    /** The calls by which an object comes into a state. */
    interface Script {
        void on(FestivalFields x);
    }

    /** One call. */
    interface Ask {
        long of(FestivalFields x);
    }

    private final Due due;
    private final Script script;
    private final boolean withField;
    private final List<String> before;

    private RefusalsTest(Due due, boolean withField, Script script) {
        this.due = due;
        this.script = script;
        this.withField = withField;
        before = Probe.of(made(), withField);
    }

    public static void main(String[] args) {
        Due due = new Due();
        RefusalsTest busy = new RefusalsTest(due, true, RefusalsTest::busy);
        tape(busy);
        field(busy);
        ground(busy);
        programme(busy);
        book(busy);
        licence(busy);
        questions(busy);
        fullTape(new RefusalsTest(due, true, RefusalsTest::fullTape));
        almostFullTape(new RefusalsTest(due, true, RefusalsTest::almostFullTape));
        noPlace(new RefusalsTest(due, true, RefusalsTest::noPlace));
        fullField(new RefusalsTest(due, true, RefusalsTest::fullField));
        fullGround(new RefusalsTest(due, true, RefusalsTest::fullGround));
        fullBook(new RefusalsTest(due, false, RefusalsTest::fullBook));
        lastMinute(new RefusalsTest(due, true, RefusalsTest::lastMinute));
        wrongLicences(new RefusalsTest(due, true, RefusalsTest::busyWithoutTape));
        RefusalsTest fresh = new RefusalsTest(due, true, x -> { });
        nothingThere(fresh);
        anotherObject(fresh);
        due.end();
    }

    private FestivalFields made() {
        FestivalFields x = new FestivalFields();
        script.on(x);
        return x;
    }

    private void refused(String call, String answer, Ask ask) {
        FestivalFields x = made();
        due.same(call, answer, Due.text(() -> ask.of(x)));
        due.same(call + ": what it changed", "", Probe.difference(before, Probe.of(x, withField)));
    }

    private void asked(String call, Ask ask) {
        FestivalFields x = made();
        Due.text(() -> ask.of(x));
        due.same(call + ": what it changed", "", Probe.difference(before, Probe.of(x, withField)));
    }

    private static long one(boolean is) {
        return is ? 1 : 0;
    }

    /** Something of everything, and the gate, the TAPE, a fault and NOISE not as they are at first. */
    static void busy(FestivalFields x) {
        busyWithoutTape(x);
        Due.tape(x, "tents 2;people 77");
    }

    private static void busyWithoutTape(FestivalFields x) {
        x.lane(3, true);
        x.lane(40, true);
        x.gate(70);
        x.tent(3, 2);
        x.tent(2, 2);
        x.tent(1, 4);
        x.strike(1);
        x.place(120, 0);
        x.place(30, 9);
        x.place(0, 7);
        x.place(11, 4);
        x.shut(3, true);
        x.way(0, 1, 2, 6);
        x.way(0, 2, 1, 5);
        x.way(2, 3, 3, 8);
        x.act(0, false, 10, 5);
        x.act(0, false, 15, 4);
        x.act(1, true, 0, 6);
        x.minutes(50);
        x.pass(0, true, 20);
        x.pass(7, true, 50);
        x.minutes(50);
        x.pass(7, false, 60);
        x.pass(299, false, 0);
        x.pass(0, true, 60);
        x.noise(5, 77);
        x.noise(23, 100);
        Due.tape(x, "people 500;noise 77 from 5 to 9;worst 3");
        x.licence();
        Due.tape(x, "tents x");
        Due.text(x::licence);
    }

    private static void tape(RefusalsTest t) {
        t.due.of("3: false, and nothing happens, if it has fewer, or n is below 0");
        for (int n : new int[] {-1, 18, 400, 401, MAX, MIN}) {
            t.refused("end(" + n + ") of 17", FALSE, x -> one(x.end(n)));
        }
    }

    private static void field(RefusalsTest t) {
        t.due.of("4: false, and nothing happens, if it is that already, or a TENT stands there");
        t.refused("lane(3, true)", FALSE, x -> one(x.lane(3, true)));
        t.refused("lane(0, false)", FALSE, x -> one(x.lane(0, false)));
        t.refused("lane(191, false)", FALSE, x -> one(x.lane(191, false)));
        for (int square : new int[] {70, 72, 88}) {
            t.refused("lane(" + square + ", true)", FALSE, x -> one(x.lane(square, true)));
            t.refused("lane(" + square + ", false)", FALSE, x -> one(x.lane(square, false)));
        }
        t.due.of("a call that throws changes nothing: there is no such SQUARE");
        for (int square : new int[] {-1, 192, MAX, MIN}) {
            t.refused("lane(" + square + ", true)", OUT_OF_BOUNDS, x -> one(x.lane(square, true)));
            t.refused("lane(" + square + ", false)", OUT_OF_BOUNDS, x -> one(x.lane(square, false)));
            t.refused("at(" + square + ")", OUT_OF_BOUNDS, x -> x.at(square));
            t.refused("gate(" + square + ")", OUT_OF_BOUNDS, x -> {
                x.gate(square);
                return 0;
            });
        }
        t.due.of("a call that throws changes nothing: a size is none");
        for (int size : new int[] {0, 6, -1, MAX, MIN}) {
            t.refused("tent(" + size + ", 1)", ILLEGAL, x -> x.tent(size, 1));
            t.refused("tent(1, " + size + ")", ILLEGAL, x -> x.tent(1, size));
        }
        t.due.of("a call that throws changes nothing: there is no such TENT");
        for (int tent : new int[] {-1, -2, 3, 60, MAX, MIN}) {
            t.refused("strike(" + tent + ")", OUT_OF_BOUNDS, x -> one(x.strike(tent)));
        }
        t.due.of("7: whether it stood (it did not)");
        t.refused("strike(1)", FALSE, x -> one(x.strike(1)));
    }

    private static void ground(RefusalsTest t) {
        t.due.of("a call that throws changes nothing: a number of a PLACE is none");
        for (int n : new int[] {-1, 20001, MAX, MIN}) {
            t.refused("place(" + n + ", 5)", ILLEGAL, x -> x.place(n, 5));
            t.refused("crowd(1, " + n + ")", ILLEGAL, x -> {
                x.crowd(1, n);
                return 0;
            });
        }
        for (int n : new int[] {-1, 2001, MAX, MIN}) {
            t.refused("place(5, " + n + ")", ILLEGAL, x -> x.place(5, n));
        }
        t.due.of("a call that throws changes nothing: there is no such PLACE");
        for (int place : new int[] {-1, 4, 8, MAX, MIN}) {
            t.refused("crowd(" + place + ", 5)", OUT_OF_BOUNDS, x -> {
                x.crowd(place, 5);
                return 0;
            });
            t.refused("shut(" + place + ", true)", OUT_OF_BOUNDS, x -> one(x.shut(place, true)));
            t.refused("shut(" + place + ", false)", OUT_OF_BOUNDS, x -> one(x.shut(place, false)));
            t.refused("way(0, " + place + ", 1, 1)", OUT_OF_BOUNDS, x -> x.way(0, place, 1, 1));
            t.refused("way(" + place + ", 0, 1, 1)", OUT_OF_BOUNDS, x -> x.way(place, 0, 1, 1));
        }
        t.due.of("11: whether it was otherwise (it was not)");
        t.refused("shut(3, true)", FALSE, x -> one(x.shut(3, true)));
        t.refused("shut(0, false)", FALSE, x -> one(x.shut(0, false)));
        t.refused("shut(1, false)", FALSE, x -> one(x.shut(1, false)));
        t.due.of("a call that throws changes nothing: a number of a WAY is none, or both PLACES are one");
        for (int n : new int[] {0, 9, -1, MAX, MIN}) {
            t.refused("way(0, 3, " + n + ", 50)", ILLEGAL, x -> x.way(0, 3, n, 50));
        }
        for (int n : new int[] {0, 2001, -1, MAX, MIN}) {
            t.refused("way(0, 3, 1, " + n + ")", ILLEGAL, x -> x.way(0, 3, 1, n));
        }
        t.refused("way(0, 0, 1, 50)", ILLEGAL, x -> x.way(0, 0, 1, 50));
        t.refused("way(3, 3, 1, 50)", ILLEGAL, x -> x.way(3, 3, 1, 50));
    }

    private static void programme(RefusalsTest t) {
        t.due.of("a call that throws changes nothing: there is no such WAY, or ACT");
        for (int n : new int[] {-1, 3, 14, MAX, MIN}) {
            t.refused("act(" + n + ", false, 0, 9)", OUT_OF_BOUNDS, x -> x.act(n, false, 0, 9));
            t.refused("act(" + n + ", true, 0, 9)", OUT_OF_BOUNDS, x -> x.act(n, true, 0, 9));
            t.refused("shift(" + n + ")", OUT_OF_BOUNDS, x -> x.shift(n));
        }
        t.due.of("a call that throws changes nothing: a number of an ACT is none");
        for (int n : new int[] {-1, 1001, MAX, MIN}) {
            t.refused("act(0, false, " + n + ", 9)", ILLEGAL, x -> x.act(0, false, n, 9));
            t.refused("act(0, false, 10, " + n + ")", ILLEGAL, x -> x.act(0, false, 10, n));
        }
    }

    private static void book(RefusalsTest t) {
        t.due.of("a call that throws changes nothing: minutes that are not 0 to 2000");
        for (int n : new int[] {-1, 2001, MAX, MIN}) {
            t.refused("minutes(" + n + ")", ILLEGAL, x -> x.minutes(n));
        }
        t.due.of("a call that throws changes nothing: there is no such BAND");
        for (int band : new int[] {-1, 300, MAX, MIN}) {
            t.refused("pass(" + band + ", true, 5)", OUT_OF_BOUNDS, x -> x.pass(band, true, 5));
            t.refused("pass(" + band + ", false, 5)", OUT_OF_BOUNDS, x -> x.pass(band, false, 5));
            t.refused("inside(" + band + ", 5, 5)", OUT_OF_BOUNDS, x -> one(x.inside(band, 5, 5)));
        }
        t.due.of("a call that throws changes nothing: the minute is none, or above NOW");
        for (int minute : new int[] {-1, 101, 10000, 10001, MAX, MIN}) {
            t.refused("pass(7, true, " + minute + ")", ILLEGAL, x -> x.pass(7, true, minute));
            t.refused("pass(8, false, " + minute + ")", ILLEGAL, x -> x.pass(8, false, minute));
        }
    }

    private static void licence(RefusalsTest t) {
        t.due.of("a call that throws changes nothing: an hour, or its NOISE, is none");
        for (int hour : new int[] {-1, 24, MAX, MIN}) {
            t.refused("noise(" + hour + ", 9)", ILLEGAL, x -> {
                x.noise(hour, 9);
                return 0;
            });
        }
        for (int n : new int[] {-1, 201, MAX, MIN}) {
            for (int hour : new int[] {0, 5, 23}) {
                t.refused("noise(" + hour + ", " + n + ")", ILLEGAL, x -> {
                    x.noise(hour, n);
                    return 0;
                });
            }
        }
        t.due.of("27: NONE for another what");
        for (int what : new int[] {-1, 10, MAX, MIN}) {
            t.refused("count(" + what + ")", NONE, x -> x.count(what));
        }
    }

    private static void questions(RefusalsTest t) {
        t.due.of("a call that only asks changes nothing");
        t.asked("at(70)", x -> x.at(70));
        t.asked("at(3)", x -> x.at(3));
        t.asked("empty()", FestivalFields::empty);
        t.asked("worst()", FestivalFields::worst);
        t.asked("tooMany()", FestivalFields::tooMany);
        t.asked("shift(2)", x -> x.shift(2));
        t.asked("inside(7, 55, 100)", x -> one(x.inside(7, 55, 100)));
        t.asked("within(false, 55, 100)", x -> x.within(false, 55, 100));
        t.asked("within(true, 55, 100)", x -> x.within(true, 55, 100));
        t.asked("fault()", FestivalFields::fault);
        t.asked("broken()", FestivalFields::broken);
        for (int what = 0; what <= 9; what++) {
            int n = what;
            t.asked("count(" + n + ")", x -> x.count(n));
        }
        t.asked("minutes(0)", x -> x.minutes(0));
        t.asked("end(17)", x -> one(x.end(17)));
    }

    private static void fullTape(FestivalFields x) {
        busyWithoutTape(x);
        Due.tape(x, "tents 2;people 77" + " ".repeat(383));
    }

    private static void fullTape(RefusalsTest t) {
        t.due.of("2: NONE, and none come, if it would have more than 400 (400)");
        t.refused("feed(..)", NONE, x -> x.feed(1, 2, 3, 4, 5));
        t.refused("feed of blanks", NONE, x -> x.feed(0x20202020, 0x20202020, 0x20202020, 0x20202020, 0x20202020));
        t.refused("end(401)", FALSE, x -> one(x.end(401)));
        t.refused("end(-1)", FALSE, x -> one(x.end(-1)));
    }

    private static void almostFullTape(FestivalFields x) {
        busyWithoutTape(x);
        Due.tape(x, "tents 2;people 77" + " ".repeat(364));
    }

    private static void almostFullTape(RefusalsTest t) {
        t.due.of("2: NONE, and none come, if it would have more than 400 (381)");
        t.refused("feed(..)", NONE, x -> x.feed(1, 2, 3, 4, 5));
        t.refused("end(382)", FALSE, x -> one(x.end(382)));
    }

    private static void noPlace(FestivalFields x) {
        busy(x);
        BoundsFieldTest.shutOutTheLargest(x);
    }

    private static void noPlace(RefusalsTest t) {
        t.due.of("6: NONE, and it is not put, if there is no place");
        t.refused("tent(5, 5)", NONE, x -> x.tent(5, 5));
    }

    private static void fullField(FestivalFields x) {
        BoundsFieldTest.shutOutTheLargest(x);
        x.gate(100);
        for (int i = 0; i < 60; i++) {
            x.tent(1, 1);
        }
        x.strike(30);
        x.place(9, 2);
        Due.tape(x, "tents 2");
    }

    private static void fullField(RefusalsTest t) {
        t.due.of("6: UnsupportedOperationException: there were 60");
        t.refused("tent(1, 1)", UNSUPPORTED, x -> x.tent(1, 1));
        t.refused("tent(5, 5)", UNSUPPORTED, x -> x.tent(5, 5));
        t.refused("tent(0, 5)", ILLEGAL, x -> x.tent(0, 5));
        t.refused("strike(60)", OUT_OF_BOUNDS, x -> one(x.strike(60)));
        t.refused("strike(30)", FALSE, x -> one(x.strike(30)));
    }

    private static void fullGround(FestivalFields x) {
        for (int i = 0; i < 8; i++) {
            x.place(20 + i, i < 4 ? 0 : 5 + i);
        }
        for (int i = 0; i < 14; i++) {
            x.way(i % 8, (i + 1 + i / 8) % 8, 1 + i % 3, 5 + i);
        }
        for (int i = 0; i < 6; i++) {
            x.act(i, false, 5 * i, 9 + 2 * i);
        }
        Due.tape(x, "tents 2");
    }

    private static void fullGround(RefusalsTest t) {
        t.due.of("9: UnsupportedOperationException: there are 8");
        t.refused("place(77, 77)", UNSUPPORTED, x -> x.place(77, 77));
        t.refused("place(20001, 77)", ILLEGAL, x -> x.place(20001, 77));
        t.due.of("12: UnsupportedOperationException: there are 14");
        t.refused("way(0, 7, 1, 1999)", UNSUPPORTED, x -> x.way(0, 7, 1, 1999));
        t.refused("way(7, 4, 8, 1)", UNSUPPORTED, x -> x.way(7, 4, 8, 1));
        t.refused("way(0, 8, 1, 1999)", OUT_OF_BOUNDS, x -> x.way(0, 8, 1, 1999));
        t.refused("way(7, 7, 1, 1999)", ILLEGAL, x -> x.way(7, 7, 1, 1999));
        t.due.of("15: NONE, and it does not come, if there are 6");
        t.refused("act(0, false, 0, 1000)", NONE, x -> x.act(0, false, 0, 1000));
        t.refused("act(13, true, 1000, 1)", NONE, x -> x.act(13, true, 1000, 1));
        t.refused("act(14, true, 1000, 1)", OUT_OF_BOUNDS, x -> x.act(14, true, 1000, 1));
        t.refused("shift(6)", OUT_OF_BOUNDS, x -> x.shift(6));
    }

    private static void fullBook(FestivalFields x) {
        x.minutes(50);
        for (int i = 0; i < 200; i++) {
            x.pass(i < 100 ? i : 299 - i % 100, i % 3 > 0, 40 - i % 10);
            if (i == 150) {
                x.minutes(50);
            }
        }
        x.minutes(20);
        Due.tape(x, "tents 2");
    }

    private static void fullBook(RefusalsTest t) {
        t.due.of("20: NONE, and it is not told, if there are 200");
        for (int band : new int[] {0, 7, 150, 299}) {
            t.refused("pass(" + band + ", true, 0)", NONE, x -> x.pass(band, true, 0));
            t.refused("pass(" + band + ", false, 0)", NONE, x -> x.pass(band, false, 0));
            t.refused("pass(" + band + ", true, 120)", NONE, x -> x.pass(band, true, 120));
            t.refused("pass(" + band + ", true, 121)", ILLEGAL, x -> x.pass(band, true, 121));
        }
        t.refused("pass(300, true, 0)", OUT_OF_BOUNDS, x -> x.pass(300, true, 0));
    }

    private static void lastMinute(FestivalFields x) {
        busy(x);
        for (int i = 0; i < 5; i++) {
            x.minutes(2000);
        }
    }

    private static void lastMinute(RefusalsTest t) {
        t.due.of("19: 10000 at most");
        for (int n : new int[] {0, 1, 2000}) {
            t.refused("minutes(" + n + ")", "10000", x -> x.minutes(n));
        }
        t.refused("minutes(2001)", ILLEGAL, x -> x.minutes(2001));
        t.refused("pass(0, true, 10001)", ILLEGAL, x -> x.pass(0, true, 10001));
    }

    /** The TAPE is empty and the fault is 6 as behind "tents x": so is all behind these. */
    private static void wrongLicences(RefusalsTest t) {
        t.due.of("24: a call that throws changes nothing but the TAPE, where it is used up: the one before stays");
        for (String text : new String[] {"tents x", "tents 61", "worst 41;tents 5", "noise 201 from 0 to 23",
            "tents ;tents 5", "      x"}) {
            t.refused("licence of '" + text + "'", ILLEGAL, x -> {
                Due.tape(x, text);
                return x.licence();
            });
        }
    }

    private static void nothingThere(RefusalsTest t) {
        t.due.of("there is nothing at all");
        t.refused("end(1)", FALSE, x -> one(x.end(1)));
        t.refused("end(-1)", FALSE, x -> one(x.end(-1)));
        t.refused("end(0)", "1", x -> one(x.end(0)));
        t.refused("lane(0, false)", FALSE, x -> one(x.lane(0, false)));
        t.refused("strike(0)", OUT_OF_BOUNDS, x -> one(x.strike(0)));
        t.refused("crowd(0, 5)", OUT_OF_BOUNDS, x -> {
            x.crowd(0, 5);
            return 0;
        });
        t.refused("shut(0, true)", OUT_OF_BOUNDS, x -> one(x.shut(0, true)));
        t.refused("way(0, 1, 1, 1)", OUT_OF_BOUNDS, x -> x.way(0, 1, 1, 1));
        t.refused("empty()", "0", FestivalFields::empty);
        t.refused("worst()", NONE, FestivalFields::worst);
        t.refused("act(0, false, 0, 0)", OUT_OF_BOUNDS, x -> x.act(0, false, 0, 0));
        t.refused("tooMany()", "0", FestivalFields::tooMany);
        t.refused("shift(0)", OUT_OF_BOUNDS, x -> x.shift(0));
        t.refused("forget()", "0", FestivalFields::forget);
        t.refused("pass(0, true, 1)", ILLEGAL, x -> x.pass(0, true, 1));
        t.refused("inside(0, 0, 0)", FALSE, x -> one(x.inside(0, 0, 0)));
        t.refused("within(false, 0, 0)", "0", x -> x.within(false, 0, 0));
        t.refused("within(true, 0, 0)", "0", x -> x.within(true, 0, 0));
        t.refused("fault()", NONE, FestivalFields::fault);
        t.refused("broken()", NONE, FestivalFields::broken);
    }

    /** The calls of one object change nothing of another one, whether that was made before or is made behind them. */
    private static void anotherObject(RefusalsTest t) {
        t.due.of("1: a new object");
        t.refused("calls of another object", "0", x -> {
            busy(new FestivalFields());
            return 0;
        });
    }
}
