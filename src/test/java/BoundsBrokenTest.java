/** Promise 26 at its bounds: each kind of TERM with as much as it allows, with one more, and with nothing there. */
public final class BoundsBrokenTest {
    private static final int NONE = FestivalFields.NONE;

    public static void main(String[] args) {
        Due due = new Due();
        people(due);
        minutes(due);
        minutesAreNone(due);
        worst(due);
        worstIsNone(due);
        tents(due);
        noise(due);
        everyHour(due);
        firstOfAll(due);
        twelfth(due);
        now(due);
        due.end();
    }

    private static FestivalFields with(String text) {
        FestivalFields x = new FestivalFields();
        Due.tape(x, text);
        x.licence();
        return x;
    }

    private static void people(Due due) {
        due.of("people NUMBER: all CROWD together at most");
        FestivalFields x = with("people 0");
        due.is("no PLACE", NONE, x.broken());
        x.place(0, 0);
        due.is("nobody", NONE, x.broken());
        x.crowd(0, 1);
        due.is("one", 0, x.broken());
        FestivalFields y = with("people 160000");
        for (int i = 0; i < 8; i++) {
            y.place(20000, 0);
        }
        due.is("all that there may be", NONE, y.broken());
        FestivalFields z = with("people 159999");
        for (int i = 0; i < 8; i++) {
            due.is(i + " PLACES", NONE, z.broken());
            z.place(20000, 0);
        }
        due.is("one too many", 0, z.broken());
        z.crowd(7, 19999);
        due.is("one fewer", NONE, z.broken());
        due.of("people NUMBER: 6 digits");
        FestivalFields six = with("people 100000");
        for (int i = 0; i < 5; i++) {
            six.place(20000, 0);
        }
        due.is("100000", NONE, six.broken());
        six.place(1, 0);
        due.is("100001", 0, six.broken());
    }

    private static void minutes(Due due) {
        due.of("minutes NUMBER: EMPTY is, at most");
        for (int n : new int[] {0, 1, 2, 39, 40}) {
            FestivalFields x = with("minutes " + n);
            due.is("nobody", NONE, x.broken());
            x.place(n, 1);
            due.is("EMPTY " + n, NONE, x.broken());
            x.crowd(0, n + 1);
            due.is("EMPTY " + n + " and one more", 0, x.broken());
            x.crowd(0, n);
            due.is("EMPTY " + n + " again", NONE, x.broken());
        }
    }

    private static void minutesAreNone(Due due) {
        due.of("BROKEN: minutes does not hold where EMPTY is none");
        FestivalFields x = with("minutes 40");
        x.place(1, 0);
        due.is("no gate", 0, x.broken());
        x.place(0, 1);
        due.is("no WAY", 0, x.broken());
        x.way(0, 1, 8, 1);
        due.is("EMPTY 9", NONE, x.broken());
        x.shut(1, true);
        due.is("SHUT", 0, x.broken());
        x.crowd(0, 0);
        due.is("nobody", NONE, x.broken());
    }

    private static void worst(Due due) {
        due.of("worst NUMBER: WORST is, at most");
        for (int n : new int[] {1, 2, 39}) {
            FestivalFields x = with("worst " + (n + 1));
            x.place(n, 1);
            x.place(0, 1);
            x.way(0, 1, 1, 1);
            due.is("WORST " + (n + 1), NONE, x.broken());
            x.crowd(0, n + 1);
            due.is("WORST is one more", 0, x.broken());
        }
        FestivalFields y = with("worst 0");
        y.place(0, 1);
        due.is("nobody, a gate: WORST 0", NONE, y.broken());
        y.crowd(0, 1);
        due.is("one, a gate", 0, y.broken());
        y.place(0, 1);
        y.way(0, 1, 1, 1);
        due.is("WORST 2", 0, y.broken());
    }

    private static void worstIsNone(Due due) {
        due.of("BROKEN: worst does not hold where WORST is none");
        FestivalFields x = with("worst 40");
        due.is("no PLACE", 0, x.broken());
        x.place(0, 0);
        due.is("no gate", 0, x.broken());
        x.place(0, 1);
        due.is("nobody, a gate", NONE, x.broken());
        x.shut(1, true);
        due.is("it is SHUT", 0, x.broken());
        x.shut(1, false);
        x.crowd(1, 1);
        due.is("the only gate", 0, x.broken());
        x.place(0, 1);
        x.way(1, 2, 1, 1);
        due.is("another one", NONE, x.broken());
    }

    private static void tents(Due due) {
        due.of("tents NUMBER: at most");
        FestivalFields x = with("tents 0");
        due.is("none", NONE, x.broken());
        x.tent(1, 1);
        due.is("one", 0, x.broken());
        x.strike(0);
        due.is("it is down", NONE, x.broken());
        FestivalFields y = with("tents 60;tents 59");
        for (int i = 0; i < 59; i++) {
            y.tent(1, 1);
        }
        due.is("59", NONE, y.broken());
        y.tent(1, 1);
        due.is("60", 1, y.broken());
        y.strike(59);
        due.is("59 stand", NONE, y.broken());
    }

    private static void noise(Due due) {
        due.of("noise NUMBER: NOISE of each hour at most");
        for (int n : new int[] {0, 1, 199, 200}) {
            FestivalFields x = with("noise " + n + " from 0 to 23");
            for (int hour = 0; hour < 24; hour++) {
                x.noise(hour, n);
            }
            due.is("NOISE " + n, NONE, x.broken());
            for (int hour = 0; hour < 24 && n < 200; hour++) {
                x.noise(hour, n + 1);
                due.is("one more in hour " + hour, 0, x.broken());
                x.noise(hour, n);
            }
            due.is("NOISE " + n + " again", NONE, x.broken());
        }
    }

    private static void everyHour(Due due) {
        due.of("noise NUMBER from NUMBER to NUMBER: of each hour from the one on to the other, that too");
        int[][] spans = {{0, 0}, {23, 23}, {0, 1}, {22, 23}, {5, 5}, {5, 9}, {1, 22}};
        for (int[] span : spans) {
            for (int hour = 0; hour < 24; hour++) {
                FestivalFields x = with("noise 9 from " + span[0] + " to " + span[1]);
                x.noise(hour, 10);
                boolean in = hour >= span[0] && hour <= span[1];
                due.is("from " + span[0] + " to " + span[1] + ", loud in " + hour, in ? 0 : NONE, x.broken());
            }
        }
    }

    private static void firstOfAll(Due due) {
        due.of("BROKEN: the first TERM (from 0 on) that does not hold now");
        String[] kinds = {"people 0", "minutes 0", "worst 0", "tents 0", "noise 0 from 0 to 0"};
        for (int first = 0; first < 5; first++) {
            StringBuilder text = new StringBuilder();
            for (int i = 0; i < 5; i++) {
                text.append(i == 0 ? "" : ";").append(kinds[(first + i) % 5]);
            }
            FestivalFields x = with(text.toString());
            x.place(0, 1);
            due.is("all hold", NONE, x.broken());
            x.noise(0, 1);
            due.is("noise", (4 - first + 5) % 5, x.broken());
            x.tent(1, 1);
            due.is("tents, noise", Math.min((4 - first + 5) % 5, (3 - first + 5) % 5), x.broken());
            x.crowd(0, 1);
            due.is("all are broken", 0, x.broken());
            x.noise(0, 0);
            x.strike(0);
            due.is("the first three", first < 3 ? 0 : 5 - first, x.broken());
        }
    }

    private static void twelfth(Due due) {
        due.of("BROKEN: the first TERM (of 12)");
        for (int at = 0; at < 12; at++) {
            StringBuilder text = new StringBuilder();
            for (int i = 0; i < 12; i++) {
                text.append(i == 0 ? "" : ";").append(i < at ? "tents 60" : "tents 0");
            }
            FestivalFields x = with(text.toString());
            due.is("all hold", NONE, x.broken());
            x.tent(1, 1);
            due.is("the TERM " + at, at, x.broken());
        }
    }

    private static void now(Due due) {
        due.of("BROKEN: that does not hold now (asking changes nothing)");
        FestivalFields x = with("people 5;worst 9");
        x.place(5, 5);
        due.is("broken()", 1, x.broken());
        due.is("broken() again", 1, x.broken());
        x.place(0, 5);
        x.way(0, 1, 1, 5);
        due.is("now all hold", NONE, x.broken());
        due.is("empty()", 1, x.empty());
        x.crowd(1, 1);
        due.is("now people", 0, x.broken());
        due.is("TERMS", 2, x.count(8));
    }
}
