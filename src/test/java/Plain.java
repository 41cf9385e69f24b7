import java.util.ArrayDeque;
import java.util.ArrayList;
import java.util.Arrays;
import java.util.Comparator;
import java.util.List;
import java.util.regex.Matcher;
import java.util.regex.Pattern;

/**
 * The document once more, as plainly as can be and by other means than the class under test: a flow over all
 * minutes at once for each T, all shifts one after the other, passes sorted anew for each question, a licence cut
 * into things by a pattern.
 */
final class Plain {
    private static final int NONE = -1;

    private record Tent(int square, int w, int h) { }

    private record Way(int a, int b, int length, int wide) { }

    private record Act(int way, boolean back, int ends, int people) { }

    private record Pass(int number, int band, boolean in, int minute, int told) { }

    private record Term(String kind, int most, int first, int last) { }

    private String tape = "";
    private final boolean[] lanes = new boolean[192];
    private int gate;
    private final List<Tent> tents = new ArrayList<>();
    private final List<Boolean> stands = new ArrayList<>();
    private final List<Integer> crowds = new ArrayList<>();
    private final List<Integer> rates = new ArrayList<>();
    private final List<Boolean> shuts = new ArrayList<>();
    private final List<Way> ways = new ArrayList<>();
    private final List<Act> acts = new ArrayList<>();
    private final List<Pass> passes = new ArrayList<>();
    private List<Term> terms = new ArrayList<>();
    private final int[] noise = new int[24];
    private int now;
    private int fault = NONE;

    int feed(int a, int b, int c, int d, int e) {
        if (tape.length() + 20 > 400) {
            return NONE;
        }
        StringBuilder more = new StringBuilder(tape);
        for (int n : new int[] {a, b, c, d, e}) {
            more.append((char) (n >> 24 & 255)).append((char) (n >> 16 & 255));
            more.append((char) (n >> 8 & 255)).append((char) (n & 255));
        }
        tape = more.toString();
        return tape.length();
    }

    boolean end(int n) {
        if (n < 0 || tape.length() < n) {
            return false;
        }
        tape = tape.substring(0, n);
        return true;
    }

    boolean lane(int square, boolean is) {
        index(square, 192);
        if (lanes[square] == is || at(square) >= 0) {
            return false;
        }
        lanes[square] = is;
        return true;
    }

    void gate(int square) {
        index(square, 192);
        gate = square;
    }

    int tent(int w, int h) {
        number(w, 1, 5);
        number(h, 1, 5);
        if (tents.size() == 60) {
            throw new UnsupportedOperationException();
        }
        List<Integer> corners = new ArrayList<>();
        for (int square = 0; square < 192; square++) {
            if (fits(square, w, h)) {
                corners.add(square);
            }
        }
        if (corners.isEmpty()) {
            return NONE;
        }
        corners.sort(Comparator.<Integer>comparingInt(this::steps).thenComparingInt(s -> s));
        tents.add(new Tent(corners.get(0), w, h));
        stands.add(true);
        return tents.size() - 1;
    }

    private int steps(int square) {
        return Math.abs(square % 16 - gate % 16) + Math.abs(square / 16 - gate / 16);
    }

    private boolean fits(int square, int w, int h) {
        int x = square % 16;
        int y = square / 16;
        if (x + w > 16 || y + h > 12) {
            return false;
        }
        for (int other = 0; other < 192; other++) {
            if (covers(new Tent(square, w, h), other) && at(other) != NONE) {
                return false;
            }
        }
        return true;
    }

    private static boolean covers(Tent tent, int square) {
        int dx = square % 16 - tent.square % 16;
        int dy = square / 16 - tent.square / 16;
        return dx >= 0 && dx < tent.w && dy >= 0 && dy < tent.h;
    }

    boolean strike(int tent) {
        index(tent, tents.size());
        return stands.set(tent, false);
    }

    int at(int square) {
        index(square, 192);
        for (int i = 0; i < tents.size(); i++) {
            if (stands.get(i) && covers(tents.get(i), square)) {
                return i;
            }
        }
        return lanes[square] ? -2 : NONE;
    }

    int place(int crowd, int rate) {
        number(crowd, 0, 20000);
        number(rate, 0, 2000);
        if (crowds.size() == 8) {
            throw new UnsupportedOperationException();
        }
        crowds.add(crowd);
        rates.add(rate);
        shuts.add(false);
        return crowds.size() - 1;
    }

    void crowd(int place, int n) {
        index(place, crowds.size());
        number(n, 0, 20000);
        crowds.set(place, n);
    }

    boolean shut(int place, boolean is) {
        index(place, crowds.size());
        return shuts.set(place, is) != is;
    }

    int way(int a, int b, int length, int wide) {
        index(a, crowds.size());
        index(b, crowds.size());
        number(length, 1, 8);
        number(wide, 1, 2000);
        if (a == b) {
            throw new IllegalArgumentException();
        }
        if (ways.size() == 14) {
            throw new UnsupportedOperationException();
        }
        ways.add(new Way(a, b, length, wide));
        return ways.size() - 1;
    }

    int empty() {
        if (!canBeOut(40)) {
            return NONE;
        }
        int low = 0;
        int high = 40;
        while (low < high) {
            int middle = (low + high) / 2;
            if (canBeOut(middle)) {
                high = middle;
            } else {
                low = middle + 1;
            }
        }
        return low;
    }

    int worst() {
        int worst = NONE;
        for (int place = 0; place < crowds.size(); place++) {
            if (rates.get(place) > 0 && !shuts.get(place)) {
                shuts.set(place, true);
                int minutes = empty();
                shuts.set(place, false);
                if (minutes == NONE) {
                    return NONE;
                }
                worst = Math.max(worst, minutes);
            }
        }
        return worst;
    }

    /** A greatest flow from a source (the last node but one) to a sink (the last node) over PLACES in minutes. */
    private boolean canBeOut(int minutes) {
        int source = 8 * minutes;
        Flow flow = new Flow(8 * minutes + 2);
        int all = 0;
        for (int place = 0; place < crowds.size(); place++) {
            all += crowds.get(place);
            for (int m = 0; m < minutes; m++) {
                if (m == 0) {
                    flow.edge(source, 8 * m + place, crowds.get(place));
                } else {
                    flow.edge(8 * (m - 1) + place, 8 * m + place, 1000000);
                }
                if (rates.get(place) > 0 && !shuts.get(place)) {
                    flow.edge(8 * m + place, source + 1, rates.get(place));
                }
            }
        }
        for (Way way : ways) {
            for (int m = 0; m + way.length < minutes; m++) {
                flow.edge(8 * m + way.a, 8 * (m + way.length) + way.b, way.wide);
                flow.edge(8 * m + way.b, 8 * (m + way.length) + way.a, way.wide);
            }
        }
        return flow.greatest(source, source + 1) == all;
    }

    /** Dinic's greatest flow. */
    private static final class Flow {
        private final List<List<int[]>> edges = new ArrayList<>();
        private final int[] depth;
        private final int[] tried;

        Flow(int nodes) {
            for (int i = 0; i < nodes; i++) {
                edges.add(new ArrayList<>());
            }
            depth = new int[nodes];
            tried = new int[nodes];
        }

        void edge(int from, int to, int most) {
            edges.get(from).add(new int[] {to, most, edges.get(to).size()});
            edges.get(to).add(new int[] {from, 0, edges.get(from).size() - 1});
        }

        int greatest(int source, int sink) {
            int sum = 0;
            while (layers(source, sink)) {
                Arrays.fill(tried, 0);
                int n = push(source, sink, Integer.MAX_VALUE);
                while (n > 0) {
                    sum += n;
                    n = push(source, sink, Integer.MAX_VALUE);
                }
            }
            return sum;
        }

        private boolean layers(int source, int sink) {
            Arrays.fill(depth, -1);
            depth[source] = 0;
            ArrayDeque<Integer> queue = new ArrayDeque<>();
            queue.add(source);
            while (!queue.isEmpty()) {
                int node = queue.poll();
                for (int[] edge : edges.get(node)) {
                    if (edge[1] > 0 && depth[edge[0]] < 0) {
                        depth[edge[0]] = depth[node] + 1;
                        queue.add(edge[0]);
                    }
                }
            }
            return depth[sink] >= 0;
        }

        private int push(int node, int sink, int most) {
            if (node == sink) {
                return most;
            }
            for (; tried[node] < edges.get(node).size(); tried[node]++) {
                int[] edge = edges.get(node).get(tried[node]);
                if (edge[1] > 0 && depth[edge[0]] == depth[node] + 1) {
                    int n = push(edge[0], sink, Math.min(most, edge[1]));
                    if (n > 0) {
                        edge[1] -= n;
                        edges.get(edge[0]).get(edge[2])[1] += n;
                        return n;
                    }
                }
            }
            return 0;
        }
    }

    int act(int way, boolean back, int ends, int people) {
        index(way, ways.size());
        number(ends, 0, 1000);
        number(people, 0, 1000);
        if (acts.size() == 6) {
            return NONE;
        }
        acts.add(new Act(way, back, ends, people));
        return acts.size() - 1;
    }

    int tooMany() {
        return over(best());
    }

    int shift(int act) {
        index(act, acts.size());
        return best()[act];
    }

    int forget() {
        int n = acts.size();
        acts.clear();
        return n;
    }

    private int[] best() {
        int[] best = null;
        int all = (int) Math.round(Math.pow(3, acts.size()));
        for (int code = 0; code < all; code++) {
            int[] shifts = new int[acts.size()];
            int rest = code;
            for (int i = shifts.length - 1; i >= 0; i--) {
                shifts[i] = 10 * (rest % 3);
                rest /= 3;
            }
            if (best == null || isBetter(shifts, best)) {
                best = shifts;
            }
        }
        return best;
    }

    private boolean isBetter(int[] one, int[] other) {
        int byOver = Integer.compare(over(one), over(other));
        int bySum = Integer.compare(Arrays.stream(one).sum(), Arrays.stream(other).sum());
        return byOver != 0 ? byOver < 0 : bySum != 0 ? bySum < 0 : Arrays.compare(one, other) < 0;
    }

    /** Each minute of a WAY's direction counts with the first of the ACTS that send there then. */
    private int over(int[] shifts) {
        int sum = 0;
        for (int i = 0; i < acts.size(); i++) {
            for (int m = acts.get(i).ends + shifts[i]; m < acts.get(i).ends + shifts[i] + 10; m++) {
                int sent = 0;
                boolean first = true;
                for (int k = 0; k < acts.size(); k++) {
                    boolean same = acts.get(k).way == acts.get(i).way && acts.get(k).back == acts.get(i).back;
                    int begin = acts.get(k).ends + shifts[k];
                    if (same && begin <= m && m < begin + 10) {
                        sent += acts.get(k).people;
                        first &= k >= i;
                    }
                }
                sum += first ? Math.max(0, sent - ways.get(acts.get(i).way).wide) : 0;
            }
        }
        return sum;
    }

    int minutes(int n) {
        number(n, 0, 2000);
        now = Math.min(10000, now + n);
        return now;
    }

    int pass(int band, boolean in, int minute) {
        index(band, 300);
        number(minute, 0, 10000);
        number(minute, 0, now);
        if (passes.size() == 200) {
            return NONE;
        }
        passes.add(new Pass(passes.size(), band, in, minute, now));
        return passes.size() - 1;
    }

    boolean inside(int band, int minute, int known) {
        index(band, 300);
        boolean in = false;
        for (Pass pass : known(band, known)) {
            if (pass.minute <= minute) {
                in = pass.in;
            }
        }
        return in;
    }

    int within(boolean odd, int minute, int known) {
        int n = 0;
        for (int band = 0; band < 300; band++) {
            if (!odd) {
                n += inside(band, minute, known) ? 1 : 0;
                continue;
            }
            boolean in = false;
            for (Pass pass : known(band, known)) {
                n += pass.in && in || !pass.in && !in ? 1 : 0;
                in = pass.in;
            }
        }
        return n;
    }

    private List<Pass> known(int band, int known) {
        List<Pass> of = new ArrayList<>();
        for (Pass pass : passes) {
            if (pass.band == band && pass.told <= known) {
                of.add(pass);
            }
        }
        of.sort(Comparator.comparingInt(Pass::minute).thenComparingInt(Pass::number));
        return of;
    }

    void noise(int hour, int n) {
        number(hour, 0, 23);
        number(n, 0, 200);
        noise[hour] = n;
    }

    int licence() {
        String text = tape;
        tape = "";
        List<Term> read = new ArrayList<>();
        fault = firstWrong(text, read);
        if (fault != NONE) {
            throw new IllegalArgumentException();
        }
        terms = read;
        return terms.size();
    }

    int fault() {
        return fault;
    }

    /** Cuts the text into things, and follows them by what may come next. */
    private static int firstWrong(String text, List<Term> terms) {
        List<String> things = new ArrayList<>();
        List<Integer> begins = new ArrayList<>();
        Matcher matcher = Pattern.compile("[a-z]+|[0-9]+|[^ ]", Pattern.DOTALL).matcher(text);
        while (matcher.find()) {
            things.add(matcher.group());
            begins.add(matcher.start());
        }
        things.add("");
        begins.add(text.length());
        String kind = "";
        int[] numbers = new int[3];
        int state = 0;
        for (int i = 0; i < things.size(); i++) {
            String thing = things.get(i);
            boolean noise = kind.equals("noise");
            boolean fine;
            switch (state) {
                case 0:
                    fine = terms.size() < 12 && highest(thing) >= 0;
                    kind = thing;
                    state = 1;
                    break;
                case 1:
                    fine = isNumber(thing, 0, highest(kind));
                    numbers[0] = fine ? Integer.parseInt(thing) : 0;
                    state = noise ? 2 : 6;
                    break;
                case 2:
                    fine = thing.equals("from");
                    state = 3;
                    break;
                case 3:
                    fine = isNumber(thing, 0, 23);
                    numbers[1] = fine ? Integer.parseInt(thing) : 0;
                    state = 4;
                    break;
                case 4:
                    fine = thing.equals("to");
                    state = 5;
                    break;
                case 5:
                    fine = isNumber(thing, numbers[1], 23);
                    numbers[2] = fine ? Integer.parseInt(thing) : 0;
                    state = 6;
                    break;
                default:
                    fine = thing.equals(";") || thing.equals("");
                    terms.add(new Term(kind, numbers[0], numbers[1], numbers[2]));
                    state = 0;
                    break;
            }
            if (!fine) {
                return begins.get(i);
            }
        }
        return NONE;
    }

    private static int highest(String kind) {
        List<String> kinds = List.of("people", "minutes", "worst", "tents", "noise");
        int i = kinds.indexOf(kind);
        return i < 0 ? NONE : List.of(160000, 40, 40, 60, 200).get(i);
    }

    private static boolean isNumber(String thing, int least, int most) {
        if (!thing.matches("[0-9]{1,6}")) {
            return false;
        }
        int value = Integer.parseInt(thing);
        return least <= value && value <= most;
    }

    int broken() {
        for (int i = 0; i < terms.size(); i++) {
            if (!holds(terms.get(i))) {
                return i;
            }
        }
        return NONE;
    }

    private boolean holds(Term term) {
        if (term.kind.equals("people")) {
            return count(4) <= term.most;
        }
        if (term.kind.equals("minutes")) {
            int minutes = empty();
            return minutes != NONE && minutes <= term.most;
        }
        if (term.kind.equals("worst")) {
            int minutes = worst();
            return minutes != NONE && minutes <= term.most;
        }
        if (term.kind.equals("tents")) {
            return count(1) <= term.most;
        }
        return Arrays.stream(noise, term.first, term.last + 1).allMatch(n -> n <= term.most);
    }

    int count(int what) {
        switch (what) {
            case 0: return now;
            case 1: return (int) stands.stream().filter(is -> is).count();
            case 2: return squares(true);
            case 3: return crowds.size();
            case 4: return crowds.stream().mapToInt(n -> n).sum();
            case 5: return ways.size();
            case 6: return acts.size();
            case 7: return passes.size();
            case 8: return terms.size();
            case 9: return squares(false);
            default: return NONE;
        }
    }

    private int squares(boolean withTent) {
        int n = 0;
        for (int square = 0; square < 192; square++) {
            n += withTent && at(square) >= 0 || !withTent && at(square) == -2 ? 1 : 0;
        }
        return n;
    }

    private static void index(int i, int size) {
        if (i < 0 || i >= size) {
            throw new IndexOutOfBoundsException();
        }
    }

    private static void number(int n, int least, int most) {
        if (n < least || n > most) {
            throw new IllegalArgumentException();
        }
    }
}
