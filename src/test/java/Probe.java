import java.util.ArrayList;
import java.util.List;

/**
 * All that can be seen of an object, a line for each question. What no call tells by itself is shown by calls that
 * change it: the object is of no use behind that. Some 380 calls, 190 of them for the field.
 */
final class Probe {
    private final FestivalFields x;
    private final List<String> lines = new ArrayList<>();

    private Probe(FestivalFields x) {
        this.x = x;
    }

    static List<String> of(FestivalFields x, boolean withField) {
        Probe probe = new Probe(x);
        probe.counts();
        probe.programme();
        probe.book();
        probe.tape();
        probe.noise();
        probe.places();
        probe.ways();
        if (withField) {
            probe.field();
        }
        return probe.lines;
    }

    /** The first line in which two differ, or nothing. */
    static String difference(List<String> one, List<String> other) {
        for (int i = 0; i < Math.max(one.size(), other.size()); i++) {
            String a = i < one.size() ? one.get(i) : "no line";
            String b = i < other.size() ? other.get(i) : "no line";
            if (!a.equals(b)) {
                return a + " became " + b;
            }
        }
        return "";
    }

    private void ask(String call, Due.Call answer) {
        lines.add(call + " " + Due.text(answer));
    }

    private void counts() {
        for (int i = 0; i <= 9; i++) {
            int what = i;
            ask("count " + what, () -> x.count(what));
        }
        ask("fault", x::fault);
        ask("broken", x::broken);
        ask("empty", x::empty);
        ask("worst", x::worst);
    }

    private void programme() {
        ask("tooMany", x::tooMany);
        for (int i = 0; i < 6; i++) {
            int act = i;
            ask("shift " + act, () -> x.shift(act));
        }
    }

    private void book() {
        int[] minutes = {0, 20, 60, 10000};
        int[] knowns = {0, 50, 100, 10000};
        for (int known : knowns) {
            for (int minute : minutes) {
                ask("within " + minute + " " + known, () -> x.within(false, minute, known));
            }
            ask("ODD " + known, () -> x.within(true, 0, known));
        }
        for (int band : new int[] {0, 7, 299}) {
            ask("inside " + band, () -> x.inside(band, 55, 100) ? 1 : 0);
        }
        ask("the next PASS", () -> x.pass(298, true, 0));
        ask("told NOW", () -> x.within(false, 0, x.count(0) - 1));
    }

    private void tape() {
        int before = x.feed(0, 0, 0, 0, 0);
        lines.add("the TAPE behind feed " + before);
        if (before != FestivalFields.NONE) {
            x.end(before - 20);
        }
        ask("licence", x::licence);
        ask("its fault", x::fault);
        ask("its TERMS", () -> x.count(8));
        ask("its broken", x::broken);
    }

    private void noise() {
        String[] texts = {"noise 77 from 5 to 5;noise 0 from 0 to 4;noise 0 from 6 to 22;noise 99 from 23 to 23",
            "noise 100 from 23 to 23;noise 76 from 5 to 5"};
        for (String text : texts) {
            Due.tape(x, text);
            ask("licence of NOISE", x::licence);
            ask(text, x::broken);
        }
    }

    private void places() {
        for (int i = 0; i < 8; i++) {
            int place = i;
            ask("shut " + place, () -> x.shut(place, true) ? 1 : 0);
            ask("all CROWD without " + place, () -> {
                x.crowd(place, 0);
                return x.count(4);
            });
        }
        for (int i = 0; i < 8; i++) {
            int place = i;
            ask("hundred out by " + place + " alone", () -> {
                x.shut(place, false);
                x.crowd(place, 100);
                int minutes = x.empty();
                x.crowd(place, 0);
                x.shut(place, true);
                return minutes;
            });
        }
    }

    private void ways() {
        x.forget();
        for (int i = 0; i < x.count(5); i++) {
            int way = i;
            ask("WIDE of " + way, () -> {
                x.act(way, way % 2 == 1, 0, 1000);
                int above = x.tooMany();
                x.forget();
                return above;
            });
        }
    }

    private void field() {
        ask("a TENT as near as can be", () -> x.tent(1, 1));
        for (int i = 0; i < 192; i++) {
            int square = i;
            ask("at " + square, () -> x.at(square));
        }
    }
}
