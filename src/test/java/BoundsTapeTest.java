/** Promises 2 and 3 at their bounds: how much the TAPE holds, where it may be cut, and what is refused. */
public final class BoundsTapeTest {
    private static final int NONE = FestivalFields.NONE;
    private static final int MAX = Integer.MAX_VALUE;
    private static final int MIN = Integer.MIN_VALUE;
    private static final int BLANKS = 0x20202020;

    public static void main(String[] args) {
        Due due = new Due();
        nothingThere(due);
        highestFirst(due);
        everyByte(due);
        fourHundred(due);
        lastThatFits(due);
        refusedFeed(due);
        endsWithin(due);
        endsBeyond(due);
        cutBytesAreGone(due);
        due.end();
    }

    private static FestivalFields withBytes(int n) {
        FestivalFields x = new FestivalFields();
        for (int i = 0; i < n; i += 20) {
            x.feed(BLANKS, BLANKS, BLANKS, BLANKS, BLANKS);
        }
        x.end(n);
        return x;
    }

    private static int feedBlanks(FestivalFields x) {
        return x.feed(BLANKS, BLANKS, BLANKS, BLANKS, BLANKS);
    }

    private static void nothingThere(Due due) {
        due.of("2: how many it has (of an empty TAPE)");
        due.is("the first feed", 20, feedBlanks(new FestivalFields()));
        due.of("3: false if it has fewer (of an empty TAPE)");
        FestivalFields x = new FestivalFields();
        due.yes("end(0)", x.end(0));
        due.no("end(1)", x.end(1));
        due.no("end(-1)", x.end(-1));
        due.is("feed behind them", 20, feedBlanks(x));
    }

    private static void highestFirst(Due due) {
        due.of("2: twenty bytes, of each number the highest first");
        FestivalFields x = new FestivalFields();
        due.is("feed", 20, x.feed(0x74656E74, 0x73203132, 0x3B70656F, 0x706C6520, 0x31323334));
        due.is("tents 12;people 1234", 2, x.licence());
        x.tent(1, 1);
        x.place(1234, 0);
        due.is("both hold", NONE, x.broken());
        x.crowd(0, 1235);
        due.is("people 1234", 1, x.broken());
        for (int i = 0; i < 12; i++) {
            x.tent(1, 1);
        }
        due.is("tents 12", 0, x.broken());
        due.of("2: they come behind the TAPE");
        FestivalFields y = new FestivalFields();
        y.feed(0x776F7273, 0x74202020, BLANKS, BLANKS, BLANKS);
        due.is("feed onto twenty", 40, y.feed(0x37202020, BLANKS, BLANKS, BLANKS, BLANKS));
        due.is("worst, and 7 behind it", 1, y.licence());
        y.feed(0x776F7273, 0x74000000, 0, 0, 0);
        y.end(5);
        due.is("feed onto five", 25, y.feed(0x38202020, BLANKS, BLANKS, BLANKS, BLANKS));
        due.is("worst8", 1, y.licence());
    }

    /** Each byte, also those of 128 and more, is what it was: only the blank and the ';' may stand behind a TERM. */
    private static void everyByte(Due due) {
        due.of("2: twenty bytes");
        for (int b = 0; b < 256; b++) {
            for (int place = 0; place < 4; place++) {
                int number = BLANKS & ~(255 << 8 * place) | b << 8 * place;
                boolean fine = b == ' ';
                FestivalFields x = new FestivalFields();
                x.feed(0x74656E74, 0x7320317B, number, number, BLANKS);
                x.end(7);
                x.feed(BLANKS, number, BLANKS, BLANKS, number);
                String got = Due.text(x::licence);
                due.same("byte " + b + " at " + place, fine ? "1" : "throws.IllegalArgumentException", got);
                int at = b == ';' ? 7 + 16 + 3 - place : 7 + 4 + 3 - place;
                due.is("fault of byte " + b, fine ? NONE : at, x.fault());
            }
        }
    }

    private static void fourHundred(Due due) {
        due.of("2: how many it has; NONE if it would have more than 400");
        FestivalFields x = new FestivalFields();
        for (int n = 20; n <= 400; n += 20) {
            due.is("feed", n, x.feed(MIN, MAX, -1, 0, 1));
        }
        due.is("one more", NONE, feedBlanks(x));
        due.is("and one more", NONE, feedBlanks(x));
        due.yes("it has 400 still", x.end(400));
        due.yes("and may be cut", x.end(0));
        due.is("feed behind that", 20, feedBlanks(x));
    }

    private static void lastThatFits(Due due) {
        due.of("2: NONE, and none come, if it would have more than 400");
        for (int n = 379; n <= 400; n++) {
            FestivalFields x = withBytes(n);
            due.is("feed onto " + n, n <= 380 ? n + 20 : NONE, feedBlanks(x));
            due.no("more than there are", x.end((n <= 380 ? n + 20 : n) + 1));
            due.yes("as many as there are", x.end(n <= 380 ? n + 20 : n));
        }
    }

    private static void refusedFeed(Due due) {
        due.of("2: NONE, and none come");
        FestivalFields x = new FestivalFields();
        Due.tape(x, "tents 0" + " ".repeat(393));
        due.is("feed onto 400", NONE, x.feed(0, 0, 0, 0, 0));
        due.is("the text is as it was", 1, x.licence());
        Due.tape(x, "worst 7" + " ".repeat(374));
        due.is("feed onto 381", NONE, x.feed(0, 0, 0, 0, 0));
        due.no("it has 381", x.end(382));
        due.is("that text too", 1, x.licence());
        due.is("and is used up", 20, feedBlanks(x));
    }

    private static void endsWithin(Due due) {
        due.of("3: the TAPE has its first n bytes alone: true");
        for (int n : new int[] {0, 1, 19, 20, 21, 39, 40}) {
            FestivalFields x = withBytes(40);
            due.yes("end(" + n + ") of 40", x.end(n));
            due.is("feed behind it", n + 20, feedBlanks(x));
        }
        FestivalFields full = withBytes(400);
        due.yes("end(400) of 400", full.end(400));
        due.yes("end(399) of 400", full.end(399));
        due.no("end(400) of 399", full.end(400));
    }

    private static void endsBeyond(Due due) {
        due.of("3: false, and nothing happens, if it has fewer, or n is below 0");
        for (int n : new int[] {-1, -2, -20, MIN, 28, 40, 400, 401, MAX}) {
            FestivalFields x = new FestivalFields();
            Due.tape(x, "tents 5;people 100;worst 4 ");
            due.no("end(" + n + ") of 27", x.end(n));
            due.is("feed behind it", 47, feedBlanks(x));
            due.yes("end(27)", x.end(27));
            due.is("the text is as it was", 3, x.licence());
        }
    }

    private static void cutBytesAreGone(Due due) {
        due.of("3: its first n bytes alone");
        FestivalFields x = new FestivalFields();
        Due.tape(x, "tents 12");
        due.yes("end(7)", x.end(7));
        due.no("what is cut does not come back", x.end(8));
        due.is("tents 1", 1, x.licence());
        x.tent(1, 1);
        due.is("one TENT", NONE, x.broken());
        x.tent(1, 1);
        due.is("two TENTS", 0, x.broken());
    }
}
