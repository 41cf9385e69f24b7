/** Promises 23 to 26 at their bounds: NOISE, each NUMBER and word of a LICENCE, its first wrong byte, and BROKEN. */
public final class BoundsLicenceTest {
    private static final int NONE = FestivalFields.NONE;
    private static final int MAX = Integer.MAX_VALUE;
    private static final int MIN = Integer.MIN_VALUE;
    private static final String[] KINDS = {"people", "minutes", "worst", "tents", "noise"};
    private static final int[] MOSTS = {160000, 40, 40, 60, 200};

    public static void main(String[] args) {
        Due due = new Due();
        nothingThere(due);
        noiseWithin(due);
        noiseBeyond(due);
        numbersWithin(due);
        numbersBeyond(due);
        hours(due);
        hoursBeyond(due);
        notAboveTheOther(due);
        oneToSixDigits(due);
        noNumber(due);
        wordsThatAreNone(due);
        everyLetter(due);
        wordsAreAsLongAsLettersGoOn(due);
        blanks(due);
        everyByteWhereATermBegins(due);
        everyByteWhereANumberIsDue(due);
        everyByteBehindATerm(due);
        everyByteWhereFromIsDue(due);
        cutAnywhere(due);
        moreMustCome(due);
        twelveTerms(due);
        thirteenTerms(due);
        fourHundredBytes(due);
        faults(due);
        theOneBeforeStays(due);
        usesTheTapeUp(due);
        due.end();
    }

    private static String licence(FestivalFields x, String text) {
        Due.tape(x, text);
        return Due.text(x::licence);
    }

    private static void right(Due due, String text, int terms) {
        FestivalFields x = new FestivalFields();
        due.same("licence of '" + text + "'", Integer.toString(terms), licence(x, text));
        due.is("fault of '" + text + "'", NONE, x.fault());
        due.is("TERMS of '" + text + "'", terms, x.count(8));
    }

    private static void wrong(Due due, String text, int fault) {
        FestivalFields x = new FestivalFields();
        due.same("licence of '" + text + "'", "throws.IllegalArgumentException", licence(x, text));
        due.is("fault of '" + text + "'", fault, x.fault());
        due.is("TERMS behind '" + text + "'", 0, x.count(8));
    }

    private static String term(int kind, int most) {
        return KINDS[kind] + " " + most + (kind == 4 ? " from 0 to 23" : "");
    }

    private static void nothingThere(Due due) {
        due.of("25: NONE ahead of any licence()");
        FestivalFields x = new FestivalFields();
        due.is("fault()", NONE, x.fault());
        due.of("26: none without a LICENCE");
        due.is("broken()", NONE, x.broken());
        x.place(20000, 0);
        x.tent(5, 5);
        x.noise(3, 200);
        due.is("broken() of much", NONE, x.broken());
        due.is("count(8)", 0, x.count(8));
        due.of("24: an empty TAPE");
        due.illegal("licence()", x::licence);
        due.is("fault()", 0, x.fault());
        due.is("broken() still", NONE, x.broken());
    }

    /** What NOISE an hour has, by a LICENCE that allows so much and one that allows one less. */
    private static void hasNoise(Due due, FestivalFields x, int hour, int n) {
        String hours = " from " + hour + " to " + hour;
        licence(x, "noise " + n + hours);
        due.is("NOISE of " + hour + " is " + n + " at most", NONE, x.broken());
        if (n > 0) {
            licence(x, "noise " + (n - 1) + hours);
            due.is("NOISE of " + hour + " is above " + (n - 1), 0, x.broken());
        }
    }

    private static void noiseWithin(Due due) {
        due.of("NOISE (0 to 200; 0 at first) of each hour");
        for (int hour = 0; hour < 24; hour++) {
            FestivalFields x = new FestivalFields();
            licence(x, "noise 0 from 0 to 23");
            due.is("0 at first", NONE, x.broken());
            int h = hour;
            due.fine("noise(" + h + ", 200)", () -> x.noise(h, 200));
            hasNoise(due, x, hour, 200);
            due.fine("noise(" + h + ", 1)", () -> x.noise(h, 1));
            hasNoise(due, x, hour, 1);
            licence(x, (hour > 0 ? "noise 0 from 0 to " + (hour - 1) : "tents 60") + ";"
                + (hour < 23 ? "noise 0 from " + (hour + 1) + " to 23" : "tents 60"));
            due.is("of that hour alone", NONE, x.broken());
            due.fine("noise(" + h + ", 0)", () -> x.noise(h, 0));
            hasNoise(due, x, hour, 0);
        }
    }

    private static void noiseBeyond(Due due) {
        due.of("23: IllegalArgumentException: one is none");
        FestivalFields x = new FestivalFields();
        x.noise(0, 10);
        x.noise(23, 20);
        for (int wrong : new int[] {-1, 24, -24, 25, MAX, MIN}) {
            for (int n : new int[] {0, 200}) {
                due.illegal("noise(" + wrong + ", " + n + ")", () -> x.noise(wrong, n));
            }
        }
        for (int wrong : new int[] {-1, 201, -200, MAX, MIN}) {
            for (int hour : new int[] {0, 23}) {
                due.illegal("noise(" + hour + ", " + wrong + ")", () -> x.noise(hour, wrong));
            }
        }
        due.illegal("both", () -> x.noise(24, 201));
        hasNoise(due, x, 0, 10);
        hasNoise(due, x, 23, 20);
        licence(x, "noise 0 from 1 to 22");
        due.is("the others", NONE, x.broken());
    }

    private static void numbersWithin(Due due) {
        due.of("TERM: people (0 to 160000), minutes, worst (0 to 40), tents (0 to 60), noise (0 to 200)");
        for (int kind = 0; kind < 5; kind++) {
            right(due, term(kind, 0), 1);
            right(due, term(kind, 1), 1);
            right(due, term(kind, MOSTS[kind] - 1), 1);
            right(due, term(kind, MOSTS[kind]), 1);
        }
    }

    private static void numbersBeyond(Due due) {
        due.of("the first wrong byte: the begin of a NUMBER out of its bounds");
        for (int kind = 0; kind < 5; kind++) {
            int begin = KINDS[kind].length() + 1;
            wrong(due, term(kind, MOSTS[kind] + 1), begin);
            wrong(due, term(kind, 999999), begin);
            wrong(due, "tents 60;" + term(kind, MOSTS[kind] + 1), 9 + begin);
            wrong(due, term(kind, MOSTS[kind] + 1) + ";tents 60", begin);
            wrong(due, KINDS[kind] + "   " + (MOSTS[kind] + 1), begin + 2);
            wrong(due, KINDS[kind] + (MOSTS[kind] + 1), begin - 1);
            wrong(due, KINDS[kind] + " -1", begin);
            wrong(due, KINDS[kind] + " +1", begin);
        }
    }

    private static void hours(Due due) {
        due.of("TERM: noise: hours 0 to 23");
        for (int hour = 0; hour < 24; hour++) {
            right(due, "noise 5 from " + hour + " to 23", 1);
            right(due, "noise 5 from 0 to " + hour, 1);
            right(due, "noise 5 from " + hour + " to " + hour, 1);
        }
    }

    private static void hoursBeyond(Due due) {
        due.of("the first wrong byte: the begin of an hour out of its bounds");
        for (int hour : new int[] {24, 25, 99, 100, 999999}) {
            wrong(due, "noise 5 from " + hour + " to 23", 13);
            wrong(due, "noise 5 from " + hour + " to " + hour, 13);
            wrong(due, "noise 5 from " + hour, 13);
            wrong(due, "noise 5 from 0 to " + hour, 18);
            wrong(due, "noise 5 from 23 to " + hour, 19);
        }
        wrong(due, "noise 201 from 24 to 24", 6);
        wrong(due, "noise 200 from 24 to 24", 15);
    }

    private static void notAboveTheOther(Due due) {
        due.of("TERM: noise: the one not above the other");
        for (int first = 0; first < 24; first++) {
            for (int last = 0; last < 24; last++) {
                String text = "noise 5 from " + first + " to " + last;
                if (first <= last) {
                    right(due, text, 1);
                } else {
                    wrong(due, text, text.length() - (last < 10 ? 1 : 2));
                }
            }
        }
    }

    private static void oneToSixDigits(Due due) {
        due.of("a NUMBER: 1 to 6 digits");
        for (int kind = 0; kind < 5; kind++) {
            int begin = KINDS[kind].length() + 1;
            String tail = kind == 4 ? " from 0 to 0" : "";
            for (int digits = 1; digits <= 6; digits++) {
                right(due, KINDS[kind] + " " + "0".repeat(digits - 1) + "7" + tail, 1);
                right(due, KINDS[kind] + " " + "0".repeat(digits) + tail, 1);
            }
            for (int digits = 7; digits <= 12; digits++) {
                wrong(due, KINDS[kind] + " " + "0".repeat(digits - 1) + "7" + tail, begin);
                wrong(due, KINDS[kind] + " " + "0".repeat(digits) + tail, begin);
                wrong(due, KINDS[kind] + " 4" + "0".repeat(digits - 1) + tail, begin);
            }
            wrong(due, KINDS[kind] + " 4294967296" + tail, begin);
            wrong(due, KINDS[kind] + " 18446744073709551616" + tail, begin);
            wrong(due, KINDS[kind] + " 0000000;" + tail, begin);
        }
        right(due, "noise 5 from 000007 to 000023", 1);
        wrong(due, "noise 5 from 0000007 to 23", 13);
        wrong(due, "noise 5 from 7 to 0000023", 18);
        right(due, "people 099999;people 100000", 2);
        wrong(due, "people 1600000", 7);
    }

    private static void noNumber(Due due) {
        due.of("the first wrong byte: the begin of the first thing that cannot stand there (a NUMBER is due)");
        for (String kind : KINDS) {
            wrong(due, kind + ";", kind.length());
            wrong(due, kind + " ; tents 5", kind.length() + 1);
            wrong(due, kind + " from 5", kind.length() + 1);
            wrong(due, kind + " " + kind + " 5", kind.length() + 1);
        }
        wrong(due, "noise 5 from to 7", 13);
        wrong(due, "noise 5 from 7 to to", 18);
        wrong(due, "noise 5 from ;", 13);
        wrong(due, "noise from 0 to 5", 6);
    }

    private static void wordsThatAreNone(Due due) {
        due.of("the first wrong byte: the begin of a word that is none");
        for (String word : new String[] {"a", "z", "beer", "from", "to", "peopl", "minute", "wors", "tent", "nois",
            "eople", "oise", "epople", "peoplepeople", "tentsnoise"}) {
            wrong(due, word + " 5", 0);
            wrong(due, word, 0);
            wrong(due, "  " + word + " 5", 2);
            wrong(due, "tents 5 ; " + word + " 5", 10);
        }
        for (String word : new String[] {"fro", "form", "frome", "to", "tents", "f"}) {
            wrong(due, "noise 5 " + word + " 7 to 8", 8);
        }
        for (String word : new String[] {"t", "too", "from", "ot", "o"}) {
            wrong(due, "noise 5 from 7 " + word + " 8", 15);
        }
        for (int kind = 0; kind < 4; kind++) {
            wrong(due, term(kind, 5) + " from 0 to 5", term(kind, 5).length() + 1);
            wrong(due, term(kind, 5) + " 5", term(kind, 5).length() + 1);
        }
        wrong(due, "noise 5 from 7 to 8 9", 20);
        wrong(due, "noise 5 from 7 to 8 to 9", 20);
        wrong(due, "noise 5 from 7 to 8 from 9", 20);
        wrong(due, "noise 5 6 from 7 to 8", 8);
        wrong(due, "noise 5 from 7 8", 15);
    }

    /** Each letter of each word counts: with another one in its place, without it, and twice. */
    private static void everyLetter(Due due) {
        due.of("the first wrong byte: the begin of a word that is none (one letter is wrong)");
        String[] heads = {"", "", "", "", "", "noise 5 ", "noise 5 from 7 "};
        String[] words = {"people", "minutes", "worst", "tents", "noise", "from", "to"};
        String[] tails = {" 5", " 5", " 5", " 5", " 5 from 7 to 8", " 7 to 8", " 8"};
        for (int i = 0; i < words.length; i++) {
            String word = words[i];
            right(due, heads[i] + word + tails[i], 1);
            for (int k = 0; k < word.length(); k++) {
                String before = heads[i] + word.substring(0, k);
                String behind = word.substring(k + 1) + tails[i];
                for (char other = 'a'; other <= 'z'; other++) {
                    if (other != word.charAt(k)) {
                        wrong(due, before + other + behind, heads[i].length());
                    }
                }
                wrong(due, before + behind, heads[i].length());
                wrong(due, before + word.charAt(k) + word.charAt(k) + behind, heads[i].length());
            }
        }
    }

    private static void wordsAreAsLongAsLettersGoOn(Due due) {
        due.of("words are as long as a to z go on");
        for (String kind : KINDS) {
            String tail = kind.equals("noise") ? "from0to0" : "";
            right(due, kind + "5" + tail, 1);
            wrong(due, kind + "a5" + tail, 0);
            wrong(due, kind + "z5" + tail, 0);
            wrong(due, kind + "`5" + tail, kind.length());
            wrong(due, kind + "{5" + tail, kind.length());
            wrong(due, kind + "A5" + tail, kind.length());
            wrong(due, kind.substring(0, 1).toUpperCase() + kind.substring(1) + "5" + tail, 0);
            wrong(due, kind.substring(0, 2) + " " + kind.substring(2) + "5" + tail, 0);
        }
        right(due, "noise5from7to8;noise5from7to8", 2);
        wrong(due, "noise5fromz7to8", 6);
        wrong(due, "noise5from7toa8", 11);
        wrong(due, "noise5from7 t o8", 12);
    }

    private static void blanks(Due due) {
        due.of("between all there may be blanks (32), also ahead and behind");
        right(due, "tents 5", 1);
        right(due, " tents 5", 1);
        right(due, "tents 5 ", 1);
        right(due, "     tents     5     ;     worst     6     ", 2);
        right(due, "  noise  5  from  7  to  8  ;  noise  5  from  7  to  8  ", 2);
        right(due, "tents5;worst6;people7;minutes8;noise9from1to2", 5);
        wrong(due, "ten ts 5", 0);
        wrong(due, "tents 5 5", 8);
        for (char other : new char[] {0, 9, 10, 11, 12, 13, 31, 33, 95, 127, 128, 160, 255}) {
            wrong(due, other + "tents 5", 0);
            wrong(due, "tents" + other + "5", 5);
            wrong(due, "tents 5" + other, 7);
            wrong(due, "tents 5" + other + ";tents 6", 7);
            wrong(due, "tents 5;" + other + "tents 6", 8);
        }
    }

    private static void everyByteWhereATermBegins(Due due) {
        due.of("the first wrong byte: the begin of the first thing that cannot stand there (a TERM is due)");
        for (int b = 0; b < 256; b++) {
            if (b != ' ') {
                wrong(due, (char) b + "", 0);
                wrong(due, (char) b + " tents 5", 0);
                wrong(due, "tents 5; " + (char) b, 9);
            }
        }
    }

    private static void everyByteWhereANumberIsDue(Due due) {
        due.of("the first wrong byte: the begin of the first thing that cannot stand there (a NUMBER is due)");
        for (int b = 0; b < 256; b++) {
            if (b >= '0' && b <= '9') {
                right(due, "tents " + (char) b, 1);
            } else if (b != ' ') {
                wrong(due, "tents " + (char) b, 6);
                wrong(due, "noise 5 from " + (char) b + " to 7", 13);
                wrong(due, "noise 5 from 0 to " + (char) b, 18);
            }
        }
    }

    private static void everyByteBehindATerm(Due due) {
        due.of("the first wrong byte: the begin of the first thing that cannot stand there (a ';' is due)");
        for (int b = 0; b < 256; b++) {
            if (b == ' ') {
                right(due, "tents 5" + (char) b, 1);
            } else if (b == ';') {
                wrong(due, "tents 5" + (char) b, 8);
            } else if (b >= '0' && b <= '9') {
                right(due, "tents 5" + (char) b, 1);
                wrong(due, "tents 5 " + (char) b, 8);
            } else {
                wrong(due, "tents 5" + (char) b, 7);
                wrong(due, "tents 5 " + (char) b, 8);
                wrong(due, "noise 5 from 0 to 7" + (char) b, 19);
            }
        }
    }

    private static void everyByteWhereFromIsDue(Due due) {
        due.of("the first wrong byte: the begin of the first thing that cannot stand there (from, or to, is due)");
        for (int b = 0; b < 256; b++) {
            if (b != ' ') {
                wrong(due, "noise 5 " + (char) b, 8);
                wrong(due, "noise 5 from 7 " + (char) b, 15);
                wrong(due, "noise 5 " + (char) b + " from 7 to 8", 8);
                wrong(due, "noise 5 from 7 " + (char) b + " to 8", 15);
            }
        }
    }

    /** A text cut within a word has a word that is none; cut elsewhere, more must come or it is whole. */
    private static void cutAnywhere(Due due) {
        due.of("the first wrong byte: or the text's length, if more must come");
        String text = "people 12;noise 50 from 2 to 3";
        //              0      7  10    16 19   24  27 29
        int[] faults = {0, 0, 0, 0, 0, 0, 6, 7, NONE, NONE, 10, 10, 10, 10, 10, 15, 16, 17, 18, 19, 19, 19, 19, 23, 24,
            25, 26, 26, 28, 29, NONE};
        for (int n = 0; n < faults.length; n++) {
            String cut = text.substring(0, n);
            if (faults[n] == NONE) {
                right(due, cut, n < 11 ? 1 : 2);
            } else {
                wrong(due, cut, faults[n]);
            }
        }
    }

    private static void moreMustCome(Due due) {
        due.of("the first wrong byte: the text's length, if more must come");
        for (int blanks = 0; blanks <= 4; blanks++) {
            String behind = " ".repeat(blanks);
            String[] texts = {"", "people", "minutes", "worst", "tents", "noise", "noise 5", "noise 5 from",
                "noise 5 from 7", "noise 5 from 7 to", "tents 5;", "tents 5 ;", "tents 5;worst 6;", "tents 5;noise 7"};
            for (String text : texts) {
                wrong(due, text + behind, text.length() + blanks);
            }
        }
    }

    private static String terms(int n, String term) {
        StringBuilder text = new StringBuilder();
        for (int i = 0; i < n; i++) {
            text.append(i == 0 ? "" : ";").append(term);
        }
        return text.toString();
    }

    private static void twelveTerms(Due due) {
        due.of("at most 12 TERMS");
        for (int n = 1; n <= 12; n++) {
            right(due, terms(n, "tents 1"), n);
            right(due, terms(n, "noise 200 from 22 to 23"), n);
            right(due, terms(n, "worst 7 ") + "  ", n);
        }
    }

    private static void thirteenTerms(Due due) {
        due.of("the first wrong byte: of a 13th TERM its first word");
        String twelve = terms(12, "tents 1");
        for (String kind : KINDS) {
            wrong(due, twelve + ";" + kind + " 1", 96);
            wrong(due, twelve + " ; " + kind, 98);
        }
        wrong(due, twelve + ";tents 1;tents 1;tents 1", 96);
        wrong(due, twelve + ";   tents 99", 99);
        wrong(due, twelve + ";beer", 96);
        wrong(due, terms(13, "noise 200 from 0 to 9"), 12 * 22);
        due.of("the first wrong byte: an earlier one is the first");
        wrong(due, terms(11, "tents 1") + ";tents 61;tents 1", 94);
        wrong(due, terms(12, "tents 1") + " tents 1", 96);
        due.of("the first wrong byte: the text's length, if more must come (behind the 12th TERM's ';')");
        wrong(due, twelve + ";", 96);
        wrong(due, twelve + ";  ", 98);
    }

    private static void fourHundredBytes(Due due) {
        due.of("24: a text of 400 bytes, as many as the TAPE has");
        right(due, " ".repeat(393) + "tents 5", 1);
        right(due, "tents" + " ".repeat(394) + "5", 1);
        right(due, "tents 5;" + " ".repeat(384) + "worst 40", 2);
        wrong(due, "tents 5;" + " ".repeat(384) + "worst 41", 398);
        wrong(due, " ".repeat(400), 400);
        wrong(due, " ".repeat(395) + "tents", 400);
        wrong(due, " ".repeat(392) + "tents 5;", 400);
        wrong(due, " ".repeat(392) + "tents 5x", 399);
        wrong(due, "0".repeat(400), 0);
        wrong(due, "tents " + "0".repeat(394), 6);
        wrong(due, "a".repeat(400), 0);
        wrong(due, ";".repeat(400), 0);
        right(due, terms(11, "noise 200 from 22 to 23") + ";noise 200 from 22 to " + " ".repeat(113) + "23", 12);
    }

    private static void faults(Due due) {
        due.of("25: the first wrong byte of the latest licence(); NONE without one");
        FestivalFields x = new FestivalFields();
        due.is("ahead of any", NONE, x.fault());
        Due.tape(x, "tents x");
        due.is("not yet read", NONE, x.fault());
        due.illegal("a wrong one", x::licence);
        due.is("fault()", 6, x.fault());
        due.is("fault() again", 6, x.fault());
        Due.tape(x, "worst 41;tents 1");
        due.is("the next one is not yet read", 6, x.fault());
        due.illegal("another wrong one", x::licence);
        due.is("the latest", 6, x.fault());
        licence(x, "tents 1;;");
        due.is("the latest", 8, x.fault());
        due.same("a right one", "1", licence(x, "tents 1"));
        due.is("without one", NONE, x.fault());
        due.illegal("of an empty TAPE", x::licence);
        due.is("the text's length", 0, x.fault());
    }

    private static void theOneBeforeStays(Due due) {
        due.of("24: IllegalArgumentException: the text is wrong: the one before stays");
        String[] wrongs = {"", "tents 61", "tents 0;tents 61", "people 160000;beer", terms(13, "tents 60"), "tents 60;"};
        for (String wrong : wrongs) {
            FestivalFields x = new FestivalFields();
            licence(x, "people 9;tents 1;noise 7 from 3 to 4");
            due.same("'" + wrong + "'", "throws.IllegalArgumentException", licence(x, wrong));
            due.is("TERMS", 3, x.count(8));
            due.is("all hold", NONE, x.broken());
            x.noise(4, 8);
            due.is("the third", 2, x.broken());
            x.tent(1, 1);
            due.is("the second holds", 2, x.broken());
            x.tent(1, 1);
            due.is("the second", 1, x.broken());
            x.place(10, 0);
            due.is("the first", 0, x.broken());
            due.same("a right one", "1", licence(x, "people 10"));
            due.is("it stands for the other", NONE, x.broken());
            due.is("its TERMS", 1, x.count(8));
        }
    }

    private static void usesTheTapeUp(Due due) {
        due.of("24: uses the TAPE up; a call that throws changes nothing but the TAPE, where it is used up");
        FestivalFields x = new FestivalFields();
        due.same("a right one", "1", licence(x, "tents 1"));
        due.no("nothing is left", x.end(1));
        due.yes("but none", x.end(0));
        due.is("feed", 20, x.feed(0, 0, 0, 0, 0));
        due.illegal("a wrong one", x::licence);
        due.no("nothing is left", x.end(1));
        due.illegal("of nothing", x::licence);
        due.is("feed", 20, x.feed(0, 0, 0, 0, 0));
        for (int n = 40; n <= 400; n += 20) {
            x.feed(0, 0, 0, 0, 0);
        }
        due.illegal("of 400 bytes", x::licence);
        due.is("feed", 20, x.feed(0, 0, 0, 0, 0));
    }
}
