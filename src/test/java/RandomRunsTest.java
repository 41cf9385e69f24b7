import java.util.Random;

/** Promises 1 to 27: runs of calls made by fixed seeds, each answer compared with that of Plain. */
public final class RandomRunsTest {
    private static final int[] EDGES = {-1, 0, 1, 2, 5, 6, 7, 8, 9, 10, 13, 14, 23, 24, 39, 40, 41, 59, 60, 191, 192,
        199, 200, 201, 299, 300, 400, 401, 1000, 1001, 2000, 2001, 10000, 10001, 20000, 20001, 160000,
        Integer.MAX_VALUE, Integer.MIN_VALUE};
    private static final String[] THINGS = {"people", "minutes", "worst", "tents", "noise", "from", "to", ";", ";",
        " ", "  ", "7", "0", "200", "201", "23", "24", "40", "41", "60", "61", "160000", "160001", "0000007",
        "000007", "x", "A", "\t", "\u00ff", "\0"};

    /** An object is used for no more. */
    private static final int CALLS_MOST = 512;

    private final Random random;
    private final FestivalFields x = new FestivalFields();
    private final Plain plain = new Plain();
    private int calls;
    private String call;
    private String got;
    private String due;

    private RandomRunsTest(long seed) {
        random = new Random(seed);
    }

    /** Without arguments few enough seeds for each landing; with two, the seeds from the one to below the other. */
    public static void main(String[] args) {
        int first = args.length == 2 ? Integer.parseInt(args[0]) : 0;
        int end = args.length == 2 ? Integer.parseInt(args[1]) : 40;
        int wrong = 0;
        for (int theme = 0; theme < 6; theme++) {
            for (int seed = first; seed < end; seed++) {
                RandomRunsTest run = new RandomRunsTest(1000000L * theme + seed);
                if (!run.isAsDue(theme)) {
                    wrong++;
                    System.out.println("theme " + theme + ", seed " + seed + ": " + run.call + " answered " + run.got
                        + ", due is " + run.due);
                }
            }
        }
        if (wrong != 0) {
            System.exit(1);
        }
    }

    private boolean isAsDue(int theme) {
        // Theme 0 mixes all calls; the others keep to one part of the document, to go deep there.
        while (calls < CALLS_MOST) {
            int part = theme == 0 || random.nextInt(12) == 0 ? 1 + random.nextInt(5) : theme;
            switch (part) {
                case 1: field(); break;
                case 2: crowds(); break;
                case 3: programme(); break;
                case 4: bands(); break;
                default: licences(); break;
            }
            if (!got.equals(due)) {
                return false;
            }
        }
        return true;
    }

    private int pick(int least, int most) {
        return random.nextInt(25) == 0 ? EDGES[random.nextInt(EDGES.length)] : least + random.nextInt(most - least + 1);
    }

    private void compare(String text, Due.Call ours, Due.Call plainly) {
        calls++;
        call = text;
        got = Due.text(ours);
        due = Due.text(plainly);
    }

    private static long one(boolean is) {
        return is ? 1 : 0;
    }

    private void field() {
        boolean is = random.nextInt(3) > 0;
        int a = pick(0, 191);
        int w = pick(1, 5);
        int h = pick(1, 5);
        int t = pick(0, Math.max(0, plain.count(1)));
        switch (random.nextInt(8)) {
            case 0: compare("lane " + a + is, () -> one(x.lane(a, is)), () -> one(plain.lane(a, is))); break;
            case 1: compare("gate " + a, () -> done(() -> x.gate(a)), () -> done(() -> plain.gate(a))); break;
            case 2:
            case 3: compare("tent " + w + " " + h, () -> x.tent(w, h), () -> plain.tent(w, h)); break;
            case 4: compare("strike " + t, () -> one(x.strike(t)), () -> one(plain.strike(t))); break;
            case 5:
            case 6: compare("at " + a, () -> x.at(a), () -> plain.at(a)); break;
            default: compareCount(); break;
        }
    }

    private static long done(Due.Act act) {
        act.run();
        return 0;
    }

    private void compareCount() {
        int what = pick(0, 9);
        compare("count " + what, () -> x.count(what), () -> plain.count(what));
    }

    private int crowdSize() {
        int[] mosts = {0, 20, 500, 3000, 20000};
        return pick(0, mosts[random.nextInt(mosts.length)]);
    }

    private void crowds() {
        boolean is = random.nextInt(3) == 0;
        int places = plain.count(3);
        int a = pick(0, Math.max(0, places - 1));
        int b = pick(0, Math.max(0, places - 1));
        int crowd = crowdSize();
        int rate = random.nextInt(2) == 0 ? 0 : pick(0, random.nextBoolean() ? 60 : 2000);
        int length = pick(1, 8);
        int wide = pick(1, random.nextBoolean() ? 60 : 2000);
        switch (random.nextInt(9)) {
            case 0: compare("place " + crowd + " " + rate, () -> x.place(crowd, rate), () -> plain.place(crowd, rate));
                break;
            case 1:
            case 2: compare("crowd " + a + " " + crowd, () -> done(() -> x.crowd(a, crowd)),
                    () -> done(() -> plain.crowd(a, crowd)));
                break;
            case 3: compare("shut " + a + is, () -> one(x.shut(a, is)), () -> one(plain.shut(a, is))); break;
            case 4:
            case 5: compare("way " + a + " " + b + " " + length + " " + wide, () -> x.way(a, b, length, wide),
                    () -> plain.way(a, b, length, wide));
                break;
            case 6: compare("empty", x::empty, plain::empty); break;
            case 7: compare("worst", x::worst, plain::worst); break;
            default: compareCount(); break;
        }
    }

    private void programme() {
        if (plain.count(3) < 2) {
            compare("place 5 5", () -> x.place(5, 5), () -> plain.place(5, 5));
            return;
        }
        if (plain.count(5) < 3) {
            int wide = 1 + random.nextInt(1000);
            compare("way 0 1 1 " + wide, () -> x.way(0, 1, 1, wide), () -> plain.way(0, 1, 1, wide));
            return;
        }
        boolean back = random.nextInt(3) == 0;
        int way = pick(0, random.nextBoolean() ? 0 : plain.count(5) - 1);
        int ends = pick(0, random.nextBoolean() ? 40 : 1000);
        int people = pick(0, 1000);
        int act = pick(0, 5);
        switch (random.nextInt(random.nextInt(4) == 0 ? 6 : 5)) {
            case 0:
            case 1: compare("act " + way + back + " " + ends + " " + people, () -> x.act(way, back, ends, people),
                    () -> plain.act(way, back, ends, people));
                break;
            case 2: compare("tooMany", x::tooMany, plain::tooMany); break;
            case 3:
            case 4: compare("shift " + act, () -> x.shift(act), () -> plain.shift(act)); break;
            default: compare("forget", x::forget, plain::forget); break;
        }
    }

    private void bands() {
        boolean is = random.nextBoolean();
        int now = plain.count(0);
        int band = pick(0, random.nextInt(4) == 0 ? 299 : 4);
        int minute = pick(0, Math.min(now, random.nextBoolean() ? 10 : 10000));
        int known = pick(0, Math.max(1, now));
        int n = pick(0, random.nextInt(10) == 0 ? 2000 : 20);
        switch (random.nextInt(7)) {
            case 0: compare("minutes " + n, () -> x.minutes(n), () -> plain.minutes(n)); break;
            case 1:
            case 2:
            case 3: compare("pass " + band + is + " " + minute, () -> x.pass(band, is, minute),
                    () -> plain.pass(band, is, minute));
                break;
            case 4: compare("inside " + band + " " + minute + " " + known, () -> one(x.inside(band, minute, known)),
                    () -> one(plain.inside(band, minute, known)));
                break;
            default: compare("within " + is + " " + minute + " " + known, () -> x.within(is, minute, known),
                    () -> plain.within(is, minute, known));
                break;
        }
    }

    private void licences() {
        int hour = pick(0, 23);
        int loud = pick(0, 200);
        int n = pick(0, 400);
        switch (random.nextInt(8)) {
            case 0: compare("noise " + hour + " " + loud, () -> done(() -> x.noise(hour, loud)),
                    () -> done(() -> plain.noise(hour, loud)));
                break;
            case 1: compare("broken", x::broken, plain::broken); break;
            case 2: compare("fault", x::fault, plain::fault); break;
            case 3: compare("end " + n, () -> one(x.end(n)), () -> one(plain.end(n))); break;
            case 4: compareCount(); break;
            default: feedText(licenceText()); break;
        }
    }

    private String licenceText() {
        StringBuilder text = new StringBuilder();
        int terms = 1 + random.nextInt(random.nextInt(5) == 0 ? 14 : 4);
        for (int i = 0; i < terms; i++) {
            text.append(i == 0 ? "" : random.nextBoolean() ? ";" : " ; ");
            int first = random.nextInt(24);
            int last = first + random.nextInt(24 - first);
            switch (random.nextInt(5)) {
                case 0: text.append("people ").append(random.nextInt(160001)); break;
                case 1: text.append("minutes").append(random.nextInt(41)); break;
                case 2: text.append("worst  ").append(random.nextInt(41)); break;
                case 3: text.append("tents ").append(random.nextInt(61)); break;
                default: text.append("noise ").append(150 + random.nextInt(51)).append("from").append(first)
                        .append(" to ").append(last);
                    break;
            }
        }
        int changes = random.nextInt(3) - 1;
        for (int i = 0; i < changes && text.length() > 0; i++) {
            int begin = random.nextInt(text.length());
            int end = Math.min(text.length(), begin + random.nextInt(4));
            text.replace(begin, end, THINGS[random.nextInt(THINGS.length)]);
        }
        return text.toString();
    }

    private void feedText(String text) {
        if (calls + text.length() / 20 + 4 > CALLS_MOST) {
            compareCount();
            return;
        }
        for (int i = 0; i < text.length(); i += 20) {
            int[] n = new int[5];
            for (int k = 0; k < 20; k++) {
                n[k / 4] = n[k / 4] << 8 | (i + k < text.length() ? text.charAt(i + k) & 255 : 0);
            }
            compare("feed", () -> x.feed(n[0], n[1], n[2], n[3], n[4]), () -> plain.feed(n[0], n[1], n[2], n[3], n[4]));
            if (!got.equals(due)) {
                return;
            }
        }
        if (random.nextInt(10) > 0) {
            compare("end " + text.length(), () -> one(x.end(text.length())), () -> one(plain.end(text.length())));
            if (!got.equals(due)) {
                return;
            }
        }
        compare("licence of " + text, () -> x.licence(), () -> plain.licence());
        if (got.equals(due)) {
            compare("fault of " + text, x::fault, plain::fault);
        }
    }
}
