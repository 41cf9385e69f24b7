/** Promise 2: feed, and promise 3: end. */
public final class TapeTest {
    public static void main(String[] args) {
        Due due = new Due();
        lengths(due);
        order(due);
        usedUp(due);
        due.end();
    }

    private static void lengths(Due due) {
        FestivalFields x = new FestivalFields();
        for (int n = 20; n <= 400; n += 20) {
            due.is("feed to " + n, n, x.feed(-1, Integer.MAX_VALUE, Integer.MIN_VALUE, 0, 1));
        }
        due.is("feed beyond 400", FestivalFields.NONE, x.feed(0, 0, 0, 0, 0));
        due.no("end(401)", x.end(401));
        due.no("end(-1)", x.end(-1));
        due.no("end(MIN)", x.end(Integer.MIN_VALUE));
        due.no("end(MAX)", x.end(Integer.MAX_VALUE));
        due.yes("end(400)", x.end(400));
        due.yes("end(381)", x.end(381));
        due.is("feed onto 381", FestivalFields.NONE, x.feed(0, 0, 0, 0, 0));
        due.no("end(382) of 381", x.end(382));
        due.yes("end(380)", x.end(380));
        due.is("feed onto 380", 400, x.feed(0, 0, 0, 0, 0));
        due.yes("end(3)", x.end(3));
        due.is("feed onto 3", 23, x.feed(0, 0, 0, 0, 0));
        due.yes("end(0)", x.end(0));
        due.yes("end(0) again", x.end(0));
        due.no("end(1) of 0", x.end(1));
    }

    /** The bytes' order is told by a text that is right in that order alone. */
    private static void order(Due due) {
        FestivalFields x = new FestivalFields();
        x.feed(0x74656E74, 0x7320363B, 0x70656F70, 0x6C652031, 0x32333435);
        x.feed(0x36FFFFFF, -1, -1, -1, -1);
        due.yes("end(21)", x.end(21));
        due.is("tents 6;people 123456", 2, x.licence());
        due.is("fault()", FestivalFields.NONE, x.fault());
        x.feed(0x74656E74, 0x7320363B, 0x80818283, 0, 0);
        due.illegal("a byte of 128", x::licence);
        due.is("fault() of a byte of 128", 8, x.fault());
    }

    private static void usedUp(Due due) {
        FestivalFields x = new FestivalFields();
        Due.tape(x, "tents 1");
        due.is("licence()", 1, x.licence());
        due.no("used up: end(1)", x.end(1));
        Due.tape(x, "tents");
        due.illegal("licence of tents", x::licence);
        due.no("used up by a wrong one: end(1)", x.end(1));
        due.is("feed behind it", 20, x.feed(0, 0, 0, 0, 0));
    }
}
