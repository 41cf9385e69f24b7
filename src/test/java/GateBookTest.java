/** Promise 19: minutes, 20: pass, 21: inside, 22: within. */
public final class GateBookTest {
    private static final int MAX = Integer.MAX_VALUE;
    private static final int MIN = Integer.MIN_VALUE;

    public static void main(String[] args) {
        Due due = new Due();
        minutes(due);
        refusals(due);
        lateTelling(due);
        sameMinute(due);
        odd(due);
        anyMinutes(due);
        twoHundred(due);
        due.end();
    }

    private static void minutes(Due due) {
        FestivalFields x = new FestivalFields();
        for (int wrong : new int[] {-1, 2001, MAX, MIN}) {
            due.illegal("minutes(" + wrong + ")", () -> x.minutes(wrong));
        }
        due.is("NOW stays", 0, x.count(0));
        due.is("minutes(0)", 0, x.minutes(0));
        due.is("minutes(2000)", 2000, x.minutes(2000));
        for (int i = 0; i < 3; i++) {
            x.minutes(2000);
        }
        due.is("minutes(1999)", 9999, x.minutes(1999));
        due.is("10000 at most", 10000, x.minutes(2));
        due.is("it stays", 10000, x.minutes(2000));
    }

    private static void refusals(Due due) {
        FestivalFields x = new FestivalFields();
        x.minutes(10);
        for (int band : new int[] {-1, 300, MAX, MIN}) {
            due.outOfBounds("pass of " + band, () -> x.pass(band, true, 0));
            due.outOfBounds("inside of " + band, () -> x.inside(band, 0, 0));
        }
        due.outOfBounds("the BAND is told first", () -> x.pass(300, true, -1));
        for (int minute : new int[] {-1, 11, 10001, MAX, MIN}) {
            due.illegal("pass at " + minute, () -> x.pass(0, true, minute));
        }
        due.is("none was told", 0, x.count(7));
        due.is("pass(299)", 0, x.pass(299, true, 10));
        due.is("pass(0)", 1, x.pass(0, true, 0));
    }

    private static void lateTelling(Due due) {
        FestivalFields x = new FestivalFields();
        x.minutes(100);
        x.pass(5, true, 10);
        x.minutes(100);
        x.pass(5, false, 50);
        x.minutes(100);
        x.pass(5, true, 30);
        due.no("ahead of all", x.inside(5, 9, 300));
        due.yes("at its minute", x.inside(5, 10, 300));
        due.no("not yet told", x.inside(5, 10, 99));
        due.yes("told at that minute", x.inside(5, 10, 100));
        due.yes("the way out is not yet told", x.inside(5, 60, 199));
        due.no("the way out is told", x.inside(5, 60, 200));
        due.no("the later told one is ahead of the way out", x.inside(5, 60, 300));
        due.yes("between", x.inside(5, 49, 300));
        due.is("ODD ahead of it", 0, x.within(true, 0, 299));
        due.is("ODD behind it", 1, x.within(true, 0, 300));
        due.is("within, told", 0, x.within(false, 60, 200));
        due.is("within, not yet told", 1, x.within(false, 60, 199));
        due.is("within, another minute", 1, x.within(false, 40, 300));
        due.no("another BAND", x.inside(4, 40, 300));
    }

    private static void sameMinute(Due due) {
        FestivalFields x = new FestivalFields();
        x.minutes(20);
        x.pass(1, true, 7);
        x.pass(1, false, 7);
        x.pass(2, false, 7);
        x.pass(2, true, 7);
        due.no("in, then out", x.inside(1, 7, 20));
        due.yes("out, then in", x.inside(2, 7, 20));
        due.is("within", 1, x.within(false, 7, 20));
        due.is("ODD: out of one that is not", 1, x.within(true, 7, 20));
        x.minutes(1);
        x.pass(1, true, 6);
        due.is("ODD: in of one that is", 2, x.within(true, 7, 21));
        due.yes("inside in 6", x.inside(1, 6, 21));
    }

    private static void odd(Due due) {
        FestivalFields x = new FestivalFields();
        x.minutes(9);
        x.pass(0, false, 1);
        due.is("first one out", 1, x.within(true, 0, 9));
        x.pass(0, false, 2);
        due.is("out again", 2, x.within(true, 0, 9));
        x.pass(0, true, 3);
        due.is("in", 2, x.within(true, 0, 9));
        x.pass(0, true, 4);
        due.is("in again", 3, x.within(true, 0, 9));
        x.pass(299, true, 9);
        due.is("another BAND begins anew", 3, x.within(true, 0, 9));
        x.pass(150, true, 5);
        due.is("and one between", 3, x.within(true, 0, 9));
        due.is("the minute counts for nothing", 3, x.within(true, MIN, 9));
        due.is("within", 3, x.within(false, 9, 9));
        due.is("within in 8", 2, x.within(false, 8, 9));
        due.is("within in 3", 1, x.within(false, 3, 9));
    }

    private static void anyMinutes(Due due) {
        FestivalFields x = new FestivalFields();
        x.pass(0, true, 0);
        due.yes("inside at 0, known at 0", x.inside(0, 0, 0));
        due.yes("inside, far ahead", x.inside(0, MAX, MAX));
        due.no("ahead of minute 0", x.inside(0, -1, 0));
        due.no("known ahead of 0", x.inside(0, 0, -1));
        due.is("within, far ahead", 1, x.within(false, MAX, MAX));
        due.is("within ahead of 0", 0, x.within(false, MIN, MAX));
        due.is("within, known ahead of 0", 0, x.within(false, MAX, MIN));
        x.pass(0, true, 0);
        due.is("ODD, far ahead", 1, x.within(true, 0, MAX));
        due.is("ODD, known ahead of 0", 0, x.within(true, 0, MIN));
    }

    private static void twoHundred(Due due) {
        FestivalFields x = new FestivalFields();
        x.minutes(200);
        for (int i = 0; i < 200; i++) {
            due.is("pass", i, x.pass(299 - i, true, 200 - i));
        }
        due.is("the 201st", FestivalFields.NONE, x.pass(0, true, 0));
        due.no("it is not told", x.inside(0, 200, 200));
        due.illegal("one that is none", () -> x.pass(0, true, 201));
        due.outOfBounds("of no BAND", () -> x.pass(300, true, 0));
        due.is("PASSES", 200, x.count(7));
        due.is("within", 200, x.within(false, 200, 200));
        due.is("within in 100", 100, x.within(false, 100, 200));
    }
}
