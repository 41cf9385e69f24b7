/** Promises 19 to 22 at their bounds: NOW, BANDS, minutes, 200 PASSES, what is known when, and what is refused. */
public final class BoundsGateBookTest {
    private static final int NONE = FestivalFields.NONE;
    private static final int MAX = Integer.MAX_VALUE;
    private static final int MIN = Integer.MIN_VALUE;

    public static void main(String[] args) {
        Due due = new Due();
        nowAtFirst(due);
        stepsWithin(due);
        stepsBeyond(due);
        tenThousandAtMost(due);
        bandsWithin(due);
        noSuchBand(due);
        minutesWithin(due);
        minutesBeyond(due);
        whatIsToldFirst(due);
        twoHundred(due);
        nothingThere(due);
        upToAMinute(due);
        eachBandByItself(due);
        toldUpTo(due);
        byMinutesThenNumbers(due);
        lastMinuteOfAll(due);
        anyMinute(due);
        allBands(due);
        oddOfFirst(due);
        oddOfWhateverMinutes(due);
        oddOfAll(due);
        due.end();
    }

    private static void nowAtFirst(Due due) {
        due.of("BANDS: NOW (0 at first)");
        FestivalFields x = new FestivalFields();
        due.is("count(0)", 0, x.count(0));
        due.is("minutes(0)", 0, x.minutes(0));
        due.illegal("minute 1 is above it", () -> x.pass(0, true, 1));
        due.is("minute 0 is not", 0, x.pass(0, true, 0));
    }

    private static void stepsWithin(Due due) {
        due.of("19: NOW is so many minutes later: NOW");
        FestivalFields x = new FestivalFields();
        due.is("minutes(0)", 0, x.minutes(0));
        due.is("minutes(1)", 1, x.minutes(1));
        due.is("minutes(2000)", 2001, x.minutes(2000));
        due.is("minutes(1999)", 4000, x.minutes(1999));
        due.is("minutes(0)", 4000, x.minutes(0));
        due.is("count(0)", 4000, x.count(0));
    }

    private static void stepsBeyond(Due due) {
        due.of("19: IllegalArgumentException: not 0 to 2000");
        FestivalFields x = new FestivalFields();
        x.minutes(7);
        for (int wrong : new int[] {-1, 2001, -7, 10000, MAX, MIN}) {
            due.illegal("minutes(" + wrong + ")", () -> x.minutes(wrong));
            due.is("NOW stays", 7, x.count(0));
        }
        for (int i = 0; i < 5; i++) {
            x.minutes(2000);
        }
        due.illegal("at 10000: minutes(-1)", () -> x.minutes(-1));
        due.illegal("at 10000: minutes(2001)", () -> x.minutes(2001));
        due.is("NOW stays", 10000, x.count(0));
    }

    private static void tenThousandAtMost(Due due) {
        due.of("19: 10000 at most");
        int[][] lasts = {{1999, 9999}, {2000, 10000}};
        for (int[] last : lasts) {
            FestivalFields x = new FestivalFields();
            for (int i = 0; i < 4; i++) {
                x.minutes(2000);
            }
            due.is("minutes(" + last[0] + ")", last[1], x.minutes(last[0]));
            due.is("minutes(1)", 10000, x.minutes(1));
            due.is("minutes(1) again", 10000, x.minutes(1));
            due.is("minutes(2000)", 10000, x.minutes(2000));
            due.is("minutes(0)", 10000, x.minutes(0));
            due.is("count(0)", 10000, x.count(0));
        }
        FestivalFields y = new FestivalFields();
        for (int i = 0; i < 4; i++) {
            y.minutes(2000);
        }
        y.minutes(1);
        due.is("from 8001: minutes(2000)", 10000, y.minutes(2000));
    }

    private static void bandsWithin(Due due) {
        due.of("BANDS 0 to 299");
        FestivalFields x = new FestivalFields();
        due.no("inside(0, ..)", x.inside(0, 0, 0));
        due.no("inside(299, ..)", x.inside(299, 0, 0));
        due.is("pass(0, ..)", 0, x.pass(0, true, 0));
        due.is("pass(299, ..)", 1, x.pass(299, true, 0));
        due.yes("inside(0, ..)", x.inside(0, 0, 0));
        due.yes("inside(299, ..)", x.inside(299, 0, 0));
        due.no("inside(1, ..)", x.inside(1, 0, 0));
        due.no("inside(298, ..)", x.inside(298, 0, 0));
        due.is("within", 2, x.within(false, 0, 0));
    }

    private static void noSuchBand(Due due) {
        due.of("20, 21: IndexOutOfBoundsException: there is no such BAND");
        FestivalFields x = new FestivalFields();
        x.minutes(50);
        x.pass(0, true, 10);
        x.pass(299, true, 10);
        for (int wrong : new int[] {-1, 300, -299, 301, MAX, MIN}) {
            due.outOfBounds("pass(" + wrong + ", true, 20)", () -> x.pass(wrong, true, 20));
            due.outOfBounds("pass(" + wrong + ", false, 20)", () -> x.pass(wrong, false, 20));
            due.outOfBounds("inside(" + wrong + ", 20, 50)", () -> x.inside(wrong, 20, 50));
            due.outOfBounds("inside(" + wrong + ", -1, -1)", () -> x.inside(wrong, -1, -1));
        }
        due.is("PASSES", 2, x.count(7));
        due.is("within", 2, x.within(false, 20, 50));
        due.is("ODD", 0, x.within(true, 20, 50));
    }

    private static void minutesWithin(Due due) {
        due.of("PASSES: at a minute (0 to 10000, NOW at most)");
        FestivalFields x = new FestivalFields();
        x.minutes(30);
        due.is("minute 0", 0, x.pass(1, true, 0));
        due.is("minute 30", 1, x.pass(2, true, 30));
        due.yes("inside at 0", x.inside(1, 0, 30));
        due.no("not at 29", x.inside(2, 29, 30));
        due.yes("inside at 30", x.inside(2, 30, 30));
        for (int i = 0; i < 5; i++) {
            x.minutes(2000);
        }
        due.is("minute 10000", 2, x.pass(3, true, 10000));
        due.is("minute 0", 3, x.pass(4, true, 0));
        due.yes("inside at 10000", x.inside(3, 10000, 10000));
        due.no("not at 9999", x.inside(3, 9999, 10000));
    }

    private static void minutesBeyond(Due due) {
        due.of("20: IllegalArgumentException: the minute is none, or above NOW");
        FestivalFields x = new FestivalFields();
        x.pass(5, true, 0);
        for (int now : new int[] {0, 1, 999, 2000}) {
            x.minutes(now - x.count(0));
            for (int wrong : new int[] {-1, now + 1, 10000, 10001, MAX, MIN}) {
                due.illegal("NOW " + now + ": minute " + wrong, () -> x.pass(5, false, wrong));
            }
        }
        due.is("PASSES", 1, x.count(7));
        due.yes("inside as before", x.inside(5, MAX, MAX));
        due.is("the next number", 1, x.pass(5, false, 2000));
        FestivalFields y = new FestivalFields();
        for (int i = 0; i < 5; i++) {
            y.minutes(2000);
        }
        for (int wrong : new int[] {-1, 10001, 12000, MAX, MIN}) {
            due.illegal("NOW 10000: minute " + wrong, () -> y.pass(5, true, wrong));
        }
        due.is("PASSES", 0, y.count(7));
    }

    private static void whatIsToldFirst(Due due) {
        due.of("20: of several exceptions the one told first is thrown");
        FestivalFields x = new FestivalFields();
        due.outOfBounds("BAND and minute", () -> x.pass(300, true, -1));
        due.outOfBounds("BAND and minute", () -> x.pass(-1, true, 1));
        for (int i = 0; i < 200; i++) {
            x.pass(i, true, 0);
        }
        due.outOfBounds("of 200: BAND", () -> x.pass(300, true, 0));
        due.illegal("of 200: minute", () -> x.pass(0, true, 1));
        due.illegal("of 200: minute", () -> x.pass(0, true, -1));
    }

    private static void twoHundred(Due due) {
        due.of("20: NONE, and it is not told, if there are 200");
        FestivalFields x = new FestivalFields();
        x.minutes(100);
        for (int i = 0; i < 200; i++) {
            due.is("pass", i, x.pass(i % 100, i < 100, i < 100 ? 10 : 20));
        }
        due.is("PASSES", 200, x.count(7));
        due.is("within at 15", 100, x.within(false, 15, 100));
        due.is("within at 20", 0, x.within(false, 20, 100));
        due.is("the 201st", NONE, x.pass(0, true, 30));
        due.is("the 202nd", NONE, x.pass(250, false, 30));
        due.is("PASSES", 200, x.count(7));
        due.no("it is not told", x.inside(0, 30, 100));
        due.is("within at 30", 0, x.within(false, 30, 100));
        due.is("ODD", 0, x.within(true, 0, 100));
        x.minutes(5);
        due.is("later too", NONE, x.pass(7, true, 105));
        due.is("within at 105", 0, x.within(false, 105, 105));
        due.is("the first ones stay", 100, x.within(false, 10, 105));
    }

    private static void nothingThere(Due due) {
        due.of("21, 22: no PASSES");
        FestivalFields x = new FestivalFields();
        for (int minute : new int[] {0, -1, 10000, MAX, MIN}) {
            due.no("inside", x.inside(0, minute, minute));
            due.is("within(false, ..)", 0, x.within(false, minute, minute));
            due.is("within(true, ..)", 0, x.within(true, minute, minute));
        }
        x.minutes(5);
        x.pass(3, false, 2);
        due.of("INSIDE: if the last one of them went in");
        due.no("one who went out alone", x.inside(3, 5, 5));
        due.is("within", 0, x.within(false, 5, 5));
    }

    private static void upToAMinute(Due due) {
        due.of("INSIDE at M: those of minutes up to a minute M");
        FestivalFields x = new FestivalFields();
        x.minutes(100);
        x.pass(8, true, 40);
        x.pass(8, false, 60);
        int[] minutes = {0, 39, 40, 41, 59, 60, 61, 100};
        int[] inside = {0, 0, 1, 1, 1, 0, 0, 0};
        for (int i = 0; i < minutes.length; i++) {
            due.is("at " + minutes[i], inside[i], x.inside(8, minutes[i], 100) ? 1 : 0);
            due.is("within at " + minutes[i], inside[i], x.within(false, minutes[i], 100));
        }
    }

    private static void eachBandByItself(Due due) {
        due.of("as known: of a BAND by all PASSES (those of other BANDS count for nothing)");
        for (int other = 6; other <= 8; other += 2) {
            FestivalFields x = new FestivalFields();
            x.minutes(50);
            x.pass(7, true, 10);
            x.pass(other, true, 30);
            x.minutes(50);
            x.pass(7, false, 70);
            x.pass(other, false, 60);
            due.is("at 20: one", 1, x.within(false, 20, 100));
            due.no("the other at 20", x.inside(other, 20, 100));
            due.is("at 40: both", 2, x.within(false, 40, 100));
            due.is("at 65: one", 1, x.within(false, 65, 100));
            due.yes("it at 65", x.inside(7, 65, 100));
            due.is("at 80: none", 0, x.within(false, 80, 100));
            due.is("at 80, as known at 99: both", 2, x.within(false, 80, 99));
            due.is("ODD", 0, x.within(true, 80, 100));
            x.pass(other, true, 5);
            due.is("ODD: the one of 30", 1, x.within(true, 80, 100));
        }
    }

    private static void toldUpTo(Due due) {
        due.of("as known at a minute K: by all PASSES told up to K");
        FestivalFields x = new FestivalFields();
        x.minutes(50);
        x.pass(8, true, 10);
        x.minutes(20);
        x.pass(8, false, 5);
        x.pass(8, false, 20);
        int[] knowns = {0, 10, 49, 50, 51, 69, 70, 71, 10000};
        int[] inside = {0, 0, 0, 1, 1, 1, 0, 0, 0};
        int[] odd = {0, 0, 0, 0, 0, 0, 1, 1, 1};
        for (int i = 0; i < knowns.length; i++) {
            due.is("known at " + knowns[i], inside[i], x.inside(8, 30, knowns[i]) ? 1 : 0);
            due.is("within, known at " + knowns[i], inside[i], x.within(false, 30, knowns[i]));
            due.is("ODD, known at " + knowns[i], odd[i], x.within(true, 30, knowns[i]));
        }
    }

    private static void byMinutesThenNumbers(Due due) {
        due.of("as known: by their minutes, of several of one minute by their numbers");
        for (int told = 0; told < 2; told++) {
            FestivalFields x = new FestivalFields();
            x.minutes(30);
            x.pass(1, true, 20);
            x.minutes(told);
            x.pass(1, false, 19);
            due.yes("the later minute counts", x.inside(1, 30, 40));
            due.no("at 19", x.inside(1, 19, 40));
            x.minutes(told);
            x.pass(1, false, 20);
            due.no("of one minute the greater number", x.inside(1, 30, 40));
            x.minutes(told);
            x.pass(1, true, 20);
            due.yes("and the next one", x.inside(1, 30, 40));
            due.is("within", 1, x.within(false, 20, 40));
            due.is("ODD: the one of 19", 1, x.within(true, 0, 40));
        }
        FestivalFields y = new FestivalFields();
        y.pass(0, true, 0);
        y.pass(0, false, 0);
        due.no("in minute 0", y.inside(0, 0, 0));
        due.is("ODD", 0, y.within(true, 0, 0));
    }

    private static void lastMinuteOfAll(Due due) {
        due.of("NOW (10000 at last), told NOW");
        FestivalFields x = new FestivalFields();
        for (int i = 0; i < 6; i++) {
            x.minutes(2000);
        }
        x.pass(299, true, 10000);
        due.yes("at 10000, known at 10000", x.inside(299, 10000, 10000));
        due.no("at 9999", x.inside(299, 9999, 10000));
        due.no("known at 9999", x.inside(299, 10000, 9999));
        x.minutes(2000);
        x.pass(299, false, 10000);
        due.no("NOW is 10000 still", x.inside(299, 10000, 10000));
    }

    private static void anyMinute(Due due) {
        due.of("21, 22: at a minute, as known at another one (any numbers)");
        FestivalFields x = new FestivalFields();
        x.pass(0, true, 0);
        x.pass(0, true, 0);
        int[] numbers = {MIN, -1, 0, 1, 10000, 10001, MAX};
        for (int minute : numbers) {
            for (int known : numbers) {
                boolean in = minute >= 0 && known >= 0;
                due.is("inside(0, " + minute + ", " + known + ")", in ? 1 : 0, x.inside(0, minute, known) ? 1 : 0);
                due.is("within(false, " + minute + ", " + known + ")", in ? 1 : 0, x.within(false, minute, known));
                due.is("within(true, " + minute + ", " + known + ")", known >= 0 ? 1 : 0, x.within(true, minute, known));
            }
        }
    }

    private static void allBands(Due due) {
        due.of("22: how many BANDS are INSIDE at a minute");
        FestivalFields x = new FestivalFields();
        for (int i = 0; i < 200; i++) {
            x.pass(i < 100 ? i : i + 100, true, 0);
            due.is("within", i + 1, x.within(false, 0, 0));
        }
        due.no("BAND 100", x.inside(100, 0, 0));
        due.no("BAND 199", x.inside(199, 0, 0));
        due.yes("BAND 99", x.inside(99, 0, 0));
        due.yes("BAND 200", x.inside(200, 0, 0));
        FestivalFields y = new FestivalFields();
        for (int i = 0; i < 200; i++) {
            y.pass(7, i % 2 == 0, 0);
        }
        due.is("one BAND, 200 PASSES", 0, y.within(false, 0, 0));
        due.is("none of them is ODD", 0, y.within(true, 0, 0));
        FestivalFields z = new FestivalFields();
        for (int i = 0; i < 200; i++) {
            z.pass(7, true, 0);
        }
        due.is("one BAND counts once", 1, z.within(false, 0, 0));
        due.is("all but the first are ODD", 199, z.within(true, 0, 0));
    }

    private static void oddOfFirst(Due due) {
        due.of("ODD: in of one that is inside by the one before, or out of one that is not");
        boolean[] both = {true, false};
        for (boolean first : both) {
            for (boolean second : both) {
                for (boolean third : both) {
                    FestivalFields x = new FestivalFields();
                    x.pass(4, first, 0);
                    due.is("the first", first ? 0 : 1, x.within(true, 0, 0));
                    x.pass(4, second, 0);
                    due.is("two", (first ? 0 : 1) + (first == second ? 1 : 0), x.within(true, 0, 0));
                    x.pass(4, third, 0);
                    int odd = (first ? 0 : 1) + (first == second ? 1 : 0) + (second == third ? 1 : 0);
                    due.is("three", odd, x.within(true, 0, 0));
                }
            }
        }
        FestivalFields x = new FestivalFields();
        x.pass(3, true, 0);
        x.pass(4, true, 0);
        x.pass(5, false, 0);
        due.is("of each BAND by itself", 1, x.within(true, 0, 0));
    }

    private static void oddOfWhateverMinutes(Due due) {
        due.of("22: of ODD the first minute counts for nothing");
        FestivalFields x = new FestivalFields();
        x.minutes(100);
        x.pass(1, true, 50);
        x.pass(1, true, 100);
        x.pass(2, false, 0);
        for (int minute : new int[] {MIN, -1, 0, 49, 50, 99, 100, 10000, MAX}) {
            due.is("within(true, " + minute + ", 100)", 2, x.within(true, minute, 100));
            due.is("within(true, " + minute + ", 99)", 0, x.within(true, minute, 99));
        }
    }

    private static void oddOfAll(Due due) {
        due.of("ODD: of all told up to K (a PASS between two others changes what the one behind it is)");
        FestivalFields x = new FestivalFields();
        x.minutes(10);
        x.pass(1, true, 2);
        x.pass(1, true, 6);
        due.is("in, in", 1, x.within(true, 0, 10));
        x.minutes(10);
        x.pass(1, false, 4);
        due.is("in, out, in", 0, x.within(true, 0, 20));
        due.is("as known before", 1, x.within(true, 0, 19));
        x.minutes(10);
        x.pass(1, false, 1);
        due.is("out, in, out, in", 1, x.within(true, 0, 30));
        due.is("as known before", 0, x.within(true, 0, 29));
    }
}
