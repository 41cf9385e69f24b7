/** Promises 13 and 14 at their bounds: no minute, one, forty and none, for EMPTY and for WORST. */
public final class BoundsEscapeTest {
    private static final int NONE = FestivalFields.NONE;

    public static void main(String[] args) {
        Due due = new Due();
        noMinute(due);
        oneMinute(due);
        fortyByRate(due);
        fortyByLength(due);
        fortyByWide(due);
        noneWithoutGate(due);
        outInThatMinute(due);
        inEachDirection(due);
        waitAnywhere(due);
        shutIsNoGate(due);
        allThereMayBe(due);
        worstOfNoGate(due);
        worstIfOneIsNone(due);
        worstIsTheGreatest(due);
        worstAtForty(due);
        worstCountsOpenGatesAlone(due);
        worstChangesNothing(due);
        due.end();
    }

    private static void noMinute(Due due) {
        due.of("EMPTY: the least minutes T, 0 to 40 (nobody is there)");
        FestivalFields x = new FestivalFields();
        due.is("no PLACE", 0, x.empty());
        x.place(0, 0);
        due.is("a PLACE without a RATE", 0, x.empty());
        x.place(0, 5);
        due.is("a gate", 0, x.empty());
        x.shut(1, true);
        due.is("a gate that is SHUT", 0, x.empty());
        x.crowd(1, 1);
        due.is("one is there", NONE, x.empty());
        x.crowd(1, 0);
        due.is("nobody again", 0, x.empty());
    }

    private static void oneMinute(Due due) {
        due.of("EMPTY: in each minute as many go out as RATE at most");
        FestivalFields x = new FestivalFields();
        x.place(1, 7);
        due.is("one", 1, x.empty());
        x.crowd(0, 7);
        due.is("as many as RATE", 1, x.empty());
        x.crowd(0, 8);
        due.is("one more", 2, x.empty());
        x.crowd(0, 14);
        due.is("twice as many", 2, x.empty());
        x.crowd(0, 15);
        due.is("one more", 3, x.empty());
        x.place(70, 7);
        due.is("each PLACE has its own RATE", 10, x.empty());
    }

    private static void fortyByRate(Due due) {
        due.of("EMPTY: none, if not in 40 (by RATE)");
        for (int rate : new int[] {1, 2, 499, 500}) {
            FestivalFields x = new FestivalFields();
            x.place(39 * rate, rate);
            due.is("RATE " + rate + ": 39", 39, x.empty());
            x.crowd(0, 39 * rate + 1);
            due.is("RATE " + rate + ": one more", 40, x.empty());
            x.crowd(0, 40 * rate);
            due.is("RATE " + rate + ": 40", 40, x.empty());
            if (40 * rate < 20000) {
                x.crowd(0, 40 * rate + 1);
                due.is("RATE " + rate + ": one more", NONE, x.empty());
            }
        }
    }

    /** A line of PLACES with a gate at its end. */
    private static FestivalFields line(int... lengths) {
        FestivalFields x = new FestivalFields();
        x.place(1, 0);
        for (int i = 0; i < lengths.length; i++) {
            x.place(0, i == lengths.length - 1 ? 2000 : 0);
            x.way(i, i + 1, lengths[i], 1);
        }
        return x;
    }

    private static void fortyByLength(Due due) {
        due.of("EMPTY: none, if not in 40 (by LENGTH)");
        due.is("38 of WAYS", 39, line(8, 8, 8, 8, 6).empty());
        due.is("39 of WAYS", 40, line(8, 8, 8, 8, 7).empty());
        due.is("40 of WAYS", NONE, line(8, 8, 8, 8, 8).empty());
        due.is("39 of seven WAYS", 40, line(6, 6, 6, 6, 6, 6, 3).empty());
        due.is("40 of seven WAYS", NONE, line(6, 6, 6, 6, 6, 6, 4).empty());
        due.is("56 of seven WAYS", NONE, line(8, 8, 8, 8, 8, 8, 8).empty());
    }

    private static void fortyByWide(Due due) {
        due.of("EMPTY: none, if not in 40 (by WIDE)");
        for (int length = 1; length <= 8; length++) {
            FestivalFields x = new FestivalFields();
            x.place(3 * (40 - length), 0);
            x.place(0, 2000);
            x.way(1, 0, length, 3);
            due.is("LENGTH " + length + ": the last begin in " + (39 - length), 40, x.empty());
            x.crowd(0, 3 * (40 - length) + 1);
            due.is("LENGTH " + length + ": one more", NONE, x.empty());
            x.crowd(0, 3 * (39 - length));
            due.is("LENGTH " + length + ": three fewer", 39, x.empty());
        }
    }

    private static void noneWithoutGate(Due due) {
        due.of("13: NONE (some cannot be out)");
        FestivalFields x = new FestivalFields();
        x.place(1, 0);
        due.is("no gate", NONE, x.empty());
        x.place(0, 1);
        due.is("no WAY to it", NONE, x.empty());
        x.place(0, 0);
        x.way(0, 2, 1, 1);
        due.is("a WAY elsewhere", NONE, x.empty());
        x.way(2, 1, 1, 1);
        due.is("a WAY from there", 3, x.empty());
    }

    private static void outInThatMinute(Due due) {
        due.of("EMPTY: at its other end in minute m and LENGTH, and may begin another one, or go out, in that minute");
        due.is("one WAY", 2, line(1).empty());
        due.is("two WAYS", 3, line(1, 1).empty());
        due.is("seven WAYS", 8, line(1, 1, 1, 1, 1, 1, 1).empty());
        due.is("eight minutes", 9, line(8).empty());
        due.is("one and eight", 10, line(1, 8).empty());
    }

    private static void inEachDirection(Due due) {
        due.of("WAYS: between two PLACES, both ways: WIDE each minute, in each direction");
        for (int from = 0; from < 2; from++) {
            FestivalFields x = new FestivalFields();
            x.place(from == 0 ? 40 : 0, 0);
            x.place(from == 1 ? 40 : 0, 0);
            x.place(0, 10);
            x.place(0, 10);
            x.way(0, 2, 1, 10);
            x.way(1, 3, 1, 10);
            due.is("ten each minute at the nearer gate", 5, x.empty());
            x.way(0, 1, 1, 10);
            due.is("ten each minute at both, one minute later there", 4, x.empty());
            x.crowd(1 - from, 20);
            due.is("twenty from the other PLACE too", 4, x.empty());
            x.crowd(1 - from, 21);
            due.is("one more", 5, x.empty());
        }
    }

    private static void waitAnywhere(Due due) {
        due.of("EMPTY: one may wait anywhere");
        FestivalFields x = new FestivalFields();
        x.place(39, 0);
        x.place(0, 1);
        x.way(0, 1, 1, 2000);
        due.is("all at the gate", 40, x.empty());
        FestivalFields y = new FestivalFields();
        y.place(38, 0);
        y.place(0, 0);
        y.place(0, 1);
        y.way(0, 1, 1, 2000);
        y.way(1, 2, 1, 1);
        due.is("all half way", 40, y.empty());
        y.crowd(0, 39);
        due.is("one more", NONE, y.empty());
        FestivalFields z = new FestivalFields();
        z.place(38, 0);
        z.place(0, 0);
        z.place(0, 1);
        z.way(0, 1, 1, 1);
        z.way(1, 2, 1, 2000);
        due.is("all where they were", 40, z.empty());
    }

    private static void shutIsNoGate(Due due) {
        due.of("EMPTY: at each PLACE with a RATE, not SHUT");
        FestivalFields x = new FestivalFields();
        x.place(10, 10);
        x.place(0, 10);
        x.way(0, 1, 1, 10);
        due.is("open", 1, x.empty());
        x.shut(0, true);
        due.is("SHUT: by the other", 2, x.empty());
        x.shut(1, true);
        due.is("both SHUT", NONE, x.empty());
        x.shut(0, false);
        due.is("open again", 1, x.empty());
    }

    private static void allThereMayBe(Due due) {
        due.of("EMPTY: all CROWD, 8 PLACES, 14 WAYS");
        FestivalFields x = new FestivalFields();
        for (int i = 0; i < 8; i++) {
            x.place(20000, i < 2 ? 2000 : 0);
        }
        for (int i = 0; i < 14; i++) {
            x.way(i % 7 + 1, i < 7 ? 0 : i % 7 == 0 ? 2 : 1, 1, 2000);
        }
        due.is("160000 by 4000 each minute", 40, x.empty());
        x.shut(1, true);
        due.is("by 2000", NONE, x.empty());
        x.shut(1, false);
        due.is("by one of them", NONE, x.worst());
        FestivalFields y = new FestivalFields();
        for (int i = 0; i < 8; i++) {
            y.place(20000, 2000);
        }
        due.is("each by its own gate", 10, y.empty());
        due.is("one of them SHUT, no WAY", NONE, y.worst());
        for (int i = 0; i < 14; i++) {
            y.way(i % 8, (i + 1) % 8, 1, 2000);
        }
        due.is("by WAYS too", 10, y.empty());
        due.is("one of them SHUT", 12, y.worst());
    }

    private static void worstOfNoGate(Due due) {
        due.of("WORST: none, if there is no such PLACE");
        FestivalFields x = new FestivalFields();
        due.is("no PLACE", NONE, x.worst());
        x.place(0, 0);
        due.is("no RATE", NONE, x.worst());
        x.place(0, 5);
        due.is("nobody, one gate", 0, x.worst());
        x.shut(1, true);
        due.is("nobody, it is SHUT", NONE, x.worst());
        x.shut(1, false);
        due.is("nobody, it is open again", 0, x.worst());
    }

    private static void worstIfOneIsNone(Due due) {
        due.of("WORST: none, if one of these is none");
        FestivalFields x = new FestivalFields();
        x.place(10, 10);
        due.is("the only gate", NONE, x.worst());
        x.place(0, 10);
        due.is("none can go to the other", NONE, x.worst());
        x.way(0, 1, 1, 10);
        due.is("now they can", 2, x.worst());
        x.place(5, 5);
        due.is("five can't, if theirs is SHUT", NONE, x.worst());
        x.way(1, 2, 8, 1);
        due.is("now they can: the last begins in 4", 13, x.worst());
        for (int first = 0; first < 3; first++) {
            FestivalFields y = new FestivalFields();
            for (int i = 0; i < 3; i++) {
                y.place(i == first ? 1 : 0, 1);
            }
            due.is("none is the gate " + first + " alone", NONE, y.worst());
            y.crowd(first, 0);
            due.is("nobody", 0, y.worst());
        }
    }

    private static void worstIsTheGreatest(Due due) {
        due.of("WORST: the greatest EMPTY of all");
        for (int first = 0; first < 3; first++) {
            FestivalFields x = new FestivalFields();
            for (int i = 0; i < 3; i++) {
                x.place(i == first ? 20 : 0, 4 + i);
            }
            x.place(0, 0);
            for (int i = 0; i < 3; i++) {
                x.way(i, 3, 1, 2000);
            }
            // With its own gate SHUT they are two minutes away from the others, of 11, 10 and 9 together.
            due.is("all CROWD at " + first, first == 2 ? 5 : 4, x.worst());
        }
        FestivalFields x = new FestivalFields();
        x.place(60, 10);
        x.place(0, 30);
        x.way(0, 1, 1, 60);
        due.is("EMPTY by both", 3, x.empty());
        due.is("the first SHUT: 3; the second SHUT: 6", 6, x.worst());
        FestivalFields y = new FestivalFields();
        y.place(60, 30);
        y.place(0, 10);
        y.way(0, 1, 1, 60);
        due.is("EMPTY by both", 2, y.empty());
        due.is("the first SHUT: 7; the second SHUT: 2", 7, y.worst());
    }

    private static void worstAtForty(Due due) {
        due.of("WORST: none, if one of these is none (not in 40)");
        FestivalFields x = new FestivalFields();
        x.place(39, 1);
        x.place(0, 1);
        x.way(0, 1, 1, 1);
        due.is("39 by the other gate", 40, x.worst());
        x.crowd(0, 40);
        due.is("one more", NONE, x.worst());
        due.is("but EMPTY is", 21, x.empty());
        x.crowd(0, 38);
        due.is("two fewer", 39, x.worst());
    }

    private static void worstCountsOpenGatesAlone(Due due) {
        due.of("WORST: one more of the PLACES with a RATE, not SHUT");
        FestivalFields x = new FestivalFields();
        x.place(12, 6);
        x.place(0, 4);
        x.place(0, 3);
        x.way(0, 1, 1, 12);
        x.way(0, 2, 1, 12);
        due.is("three gates", 3, x.worst());
        x.shut(2, true);
        due.is("one is SHUT, one more", 4, x.worst());
        x.shut(1, true);
        due.is("the last one", NONE, x.worst());
        x.shut(2, false);
        due.is("by that of 3 alone", 5, x.worst());
        x.place(0, 0);
        x.way(0, 3, 1, 12);
        due.is("a PLACE without a RATE is none of them", 5, x.worst());
    }

    private static void worstChangesNothing(Due due) {
        due.of("14: WORST (what were SHUT is not)");
        FestivalFields x = new FestivalFields();
        x.place(12, 6);
        x.place(0, 4);
        x.way(0, 1, 1, 12);
        due.is("empty()", 2, x.empty());
        due.is("worst()", 4, x.worst());
        due.is("empty() again", 2, x.empty());
        due.is("worst() again", 4, x.worst());
        due.no("the first is not SHUT", x.shut(0, false));
        due.no("the second is not SHUT", x.shut(1, false));
        due.is("all CROWD", 12, x.count(4));
        FestivalFields y = new FestivalFields();
        y.place(12, 6);
        due.is("worst() is none", NONE, y.worst());
        due.is("empty() behind it", 2, y.empty());
        due.no("it is not SHUT", y.shut(0, false));
    }
}
