/** Promise 23: noise, 24: licence, 25: fault, 26: broken. */
public final class LicenceTest {
    private static final int NONE = FestivalFields.NONE;
    private static final int MAX = Integer.MAX_VALUE;
    private static final int MIN = Integer.MIN_VALUE;

    public static void main(String[] args) {
        Due due = new Due();
        noiseRefusals(due);
        rightTexts(due);
        wrongTexts(due);
        twelveTerms(due);
        theOneBeforeStays(due);
        peopleAndTents(due);
        minutesAndWorst(due);
        noises(due);
        firstBroken(due);
        due.end();
    }

    private static void noiseRefusals(Due due) {
        FestivalFields x = new FestivalFields();
        for (int hour : new int[] {-1, 24, MAX, MIN}) {
            due.illegal("noise of hour " + hour, () -> x.noise(hour, 0));
        }
        for (int n : new int[] {-1, 201, MAX, MIN}) {
            due.illegal("noise of " + n, () -> x.noise(0, n));
        }
        due.fine("noise(0, 0)", () -> x.noise(0, 0));
        due.fine("noise(23, 200)", () -> x.noise(23, 200));
    }

    private static void right(Due due, String text, int terms) {
        FestivalFields x = new FestivalFields();
        Due.tape(x, text);
        due.is("terms of '" + text + "'", terms, Long.parseLong(Due.text(x::licence).replaceAll("throws.*", "-9")));
        due.is("fault of '" + text + "'", NONE, x.fault());
        due.is("count of '" + text + "'", terms, x.count(8));
    }

    private static void rightTexts(Due due) {
        right(due, "people 0", 1);
        right(due, "people160000", 1);
        right(due, "minutes 40;worst 0;tents 60;noise 200 from 0 to 23", 4);
        right(due, "noise0from0to0;noise1from23to23", 2);
        right(due, "   tents   000005   ;   worst\u0020\u00207   ", 2);
        right(due, "people 000160", 1);
        right(due, "noise 000200 from 000023 to 000023", 1);
    }

    private static void wrong(Due due, String text, int fault) {
        FestivalFields x = new FestivalFields();
        Due.tape(x, text);
        due.illegal("'" + text + "'", x::licence);
        due.is("fault of '" + text + "'", fault, x.fault());
        due.is("no LICENCE by '" + text + "'", 0, x.count(8));
    }

    private static void wrongTexts(Due due) {
        wrong(due, "", 0);
        wrong(due, "    ", 4);
        wrong(due, ";", 0);
        wrong(due, " ; tents 1", 1);
        wrong(due, "5", 0);
        wrong(due, "tents", 5);
        wrong(due, "tents  ", 7);
        wrong(due, "tent 5", 0);
        wrong(due, "tentss 5", 0);
        wrong(due, "Tents 5", 0);
        wrong(due, "tents;", 5);
        wrong(due, "tents -1", 6);
        wrong(due, "tents tents", 6);
        wrong(due, "tents 61", 6);
        wrong(due, "people 160001", 7);
        wrong(due, "people 999999", 7);
        wrong(due, "people 0000001", 7);
        wrong(due, "people 99999999999999999999", 7);
        wrong(due, "minutes 41", 8);
        wrong(due, "worst 41", 6);
        wrong(due, "noise 201 from 1 to 2", 6);
        wrong(due, "tents 5 6", 8);
        wrong(due, "tents 5x", 7);
        wrong(due, "tents 5.", 7);
        wrong(due, "tents 5;", 8);
        wrong(due, "tents 5;  ", 10);
        wrong(due, "tents 5;;tents 6", 8);
        wrong(due, "tents 5 tents 6", 8);
        wrong(due, "tents 5; beer 6", 9);
        wrong(due, "tents\t5", 5);
        wrong(due, "tents 5\n", 7);
        wrong(due, "tents 5\0", 7);
        wrong(due, "tents 5 from 1 to 2", 8);
        wrong(due, "noise 5", 7);
        wrong(due, "noise 5;", 7);
        wrong(due, "noise 5 fro", 8);
        wrong(due, "noise 5 fromx", 8);
        wrong(due, "noise 5 to 5 from 4", 8);
        wrong(due, "noise 5 from", 12);
        wrong(due, "noise 5 from to", 13);
        wrong(due, "noise 5 from 24 to 24", 13);
        wrong(due, "noise 5 from 3", 14);
        wrong(due, "noise 5 from 3;", 14);
        wrong(due, "noise 5 from 3 till 4", 15);
        wrong(due, "noise 5 from 3 to", 17);
        wrong(due, "noise 5 from 3 to ", 18);
        wrong(due, "noise 5 from 3 to 2", 18);
        wrong(due, "noise 5 from 3 to 24", 18);
        wrong(due, "noise 5 from 3 to 0000003", 18);
        wrong(due, "noise 5 from 3 to 4 5", 20);
        wrong(due, "minutes 5;worst 99;people", 16);
    }

    private static void twelveTerms(Due due) {
        String twelve = "tents 1;".repeat(11) + "tents 1";
        right(due, twelve, 12);
        right(due, twelve + "   ", 12);
        wrong(due, twelve + ";", 96);
        wrong(due, twelve + " ; ", 98);
        wrong(due, twelve + ";tents 1", 96);
        wrong(due, twelve + ";  tents 1", 98);
        wrong(due, twelve + "; 7", 97);
        wrong(due, twelve + " tents", 96);
        wrong(due, twelve.replace("tents", "tents ").repeat(1) + ";beer", 108);
        FestivalFields x = new FestivalFields();
        Due.tape(x, "worst 1" + " ".repeat(393));
        due.is("400 bytes", 1, x.licence());
    }

    private static void theOneBeforeStays(Due due) {
        FestivalFields x = new FestivalFields();
        x.tent(1, 1);
        due.is("without a LICENCE", NONE, x.broken());
        Due.tape(x, "people 0;tents 0");
        x.licence();
        due.is("broken", 1, x.broken());
        Due.tape(x, "tents 0;tents 0;beer");
        due.illegal("a wrong one", x::licence);
        due.is("its fault", 16, x.fault());
        due.is("the one before stays", 2, x.count(8));
        due.is("and is broken as before", 1, x.broken());
        Due.tape(x, "tents 1");
        due.is("a right one", 1, x.licence());
        due.is("no fault", NONE, x.fault());
        due.is("it stands for the other", NONE, x.broken());
        due.illegal("the TAPE is used up", x::licence);
        due.is("fault", 0, x.fault());
        due.is("still", 1, x.count(8));
    }

    private static void peopleAndTents(Due due) {
        FestivalFields x = new FestivalFields();
        x.place(60, 0);
        x.place(40, 0);
        Due.tape(x, "people 100; tents 2");
        x.licence();
        due.is("all CROWD together, at most", NONE, x.broken());
        x.crowd(1, 41);
        due.is("one above", 0, x.broken());
        x.crowd(0, 0);
        x.tent(1, 1);
        x.tent(1, 1);
        due.is("two TENTS", NONE, x.broken());
        x.tent(1, 1);
        due.is("three TENTS", 1, x.broken());
        x.strike(0);
        due.is("those that stand", NONE, x.broken());
    }

    private static void minutesAndWorst(Due due) {
        FestivalFields x = new FestivalFields();
        Due.tape(x, "minutes 4; worst 9");
        x.licence();
        due.is("without a gate there is no WORST", 1, x.broken());
        x.place(0, 10);
        due.is("nobody, one gate", NONE, x.broken());
        x.crowd(0, 40);
        due.is("no WORST", 1, x.broken());
        x.place(0, 5);
        x.way(0, 1, 1, 2000);
        due.is("WORST 9", NONE, x.broken());
        x.crowd(0, 41);
        due.is("WORST 10", 1, x.broken());
        x.shut(0, true);
        due.is("EMPTY 10", 0, x.broken());
        x.shut(1, true);
        due.is("EMPTY is none", 0, x.broken());
        x.crowd(0, 0);
        due.is("nobody, all SHUT", 1, x.broken());
        Due.tape(x, "minutes 0");
        x.licence();
        due.is("EMPTY 0", NONE, x.broken());
    }

    private static void noises(Due due) {
        FestivalFields x = new FestivalFields();
        Due.tape(x, "noise 50 from 22 to 23; noise 0 from 0 to 0");
        x.licence();
        due.is("silence", NONE, x.broken());
        x.noise(22, 50);
        x.noise(21, 200);
        x.noise(1, 200);
        due.is("at most, and other hours", NONE, x.broken());
        x.noise(23, 51);
        due.is("the last hour too", 0, x.broken());
        x.noise(23, 0);
        x.noise(22, 51);
        due.is("the first hour too", 0, x.broken());
        x.noise(22, 0);
        x.noise(0, 1);
        due.is("one hour alone", 1, x.broken());
    }

    private static void firstBroken(Due due) {
        FestivalFields x = new FestivalFields();
        Due.tape(x, "tents 3;tents 2;tents 1;tents 0;tents 60;tents 0;tents 0;tents 0;tents 0;tents 0;tents 0;worst 1");
        x.licence();
        due.is("the last one", 11, x.broken());
        for (int i = 0; i < 4; i++) {
            x.tent(1, 1);
            due.is("with " + (i + 1) + " TENTS", 3 - i, x.broken());
        }
    }
}
