import java.util.Random;

/** Promise 13: empty, and promise 14: worst. */
public final class EscapeTest {
    private static final int NONE = FestivalFields.NONE;

    public static void main(String[] args) {
        Due due = new Due();
        oneGate(due);
        ways(due);
        bothDirections(due);
        waiting(due);
        throughShut(due);
        fortyMinutes(due);
        worst(due);
        answersFollowChanges(due);
        networks(due, args.length == 2 ? Integer.parseInt(args[0]) : 0, args.length == 2 ? Integer.parseInt(args[1]) : 150);
        due.end();
    }

    private static void oneGate(Due due) {
        FestivalFields x = new FestivalFields();
        due.is("nobody, no PLACE", 0, x.empty());
        x.place(0, 0);
        due.is("nobody, no gate", 0, x.empty());
        x.crowd(0, 1);
        due.is("no gate", NONE, x.empty());
        x.place(30, 10);
        due.is("one of two has no gate", NONE, x.empty());
        x.crowd(0, 0);
        due.is("thirty of ten a minute", 3, x.empty());
        x.crowd(1, 31);
        due.is("one more", 4, x.empty());
    }

    private static void ways(Due due) {
        FestivalFields x = new FestivalFields();
        x.place(1, 0);
        x.place(0, 2000);
        x.way(0, 1, 8, 1);
        due.is("begins in 0, is there in 8, goes out in that minute", 9, x.empty());
        x.crowd(0, 32);
        due.is("the last one begins in 31", 40, x.empty());
        x.crowd(0, 33);
        due.is("one more is out in 41", NONE, x.empty());
        x.way(1, 0, 1, 1);
        due.is("a second WAY, told from the other end", 21, x.empty());
        x.place(0, 5);
        x.way(1, 2, 1, 2000);
        x.shut(1, true);
        due.is("over two WAYS", 22, x.empty());
    }

    private static void bothDirections(Due due) {
        FestivalFields x = new FestivalFields();
        x.place(10, 0);
        x.place(10, 0);
        x.place(0, 5);
        x.place(0, 5);
        x.way(0, 1, 1, 5);
        x.way(0, 2, 1, 2000);
        x.way(1, 3, 1, 2000);
        due.is("each by the own gate", 3, x.empty());
        x.crowd(0, 30);
        x.crowd(1, 0);
        due.is("half of them across", 5, x.empty());
        x.crowd(0, 0);
        x.crowd(1, 30);
        due.is("and back", 5, x.empty());
    }

    private static void waiting(Due due) {
        FestivalFields x = new FestivalFields();
        x.place(100, 0);
        x.place(0, 0);
        x.place(0, 10);
        x.way(0, 1, 1, 2000);
        x.way(1, 2, 1, 10);
        due.is("one may wait half way", 12, x.empty());
        x.place(50, 0);
        x.way(3, 1, 5, 2000);
        due.is("those from afar share it", 17, x.empty());
    }

    private static void throughShut(Due due) {
        FestivalFields x = new FestivalFields();
        x.place(10, 0);
        x.place(5, 10);
        x.place(0, 10);
        x.way(0, 1, 1, 100);
        x.way(1, 2, 1, 100);
        due.is("both gates", 2, x.empty());
        x.shut(1, true);
        due.is("who is at a SHUT PLACE goes on", 3, x.empty());
        due.is("then no gate is left", NONE, x.worst());
        x.shut(1, false);
        due.is("the second gate SHUT", 3, x.worst());
    }

    private static void fortyMinutes(Due due) {
        FestivalFields x = new FestivalFields();
        x.place(20000, 500);
        due.is("forty", 40, x.empty());
        FestivalFields y = new FestivalFields();
        y.place(20000, 499);
        due.is("more than forty", NONE, y.empty());
        FestivalFields z = new FestivalFields();
        for (int i = 0; i < 8; i++) {
            z.place(i == 0 ? 1 : 0, i == 7 ? 1 : 0);
        }
        for (int i = 0; i < 7; i++) {
            z.way(i, i + 1, i < 4 ? 8 : i < 6 ? 3 : 1, 1);
        }
        due.is("39 minutes of WAYS", 40, z.empty());
        z.way(6, 7, 1, 1);
        z.crowd(0, 2);
        due.is("two by WAYS of one", NONE, z.empty());
    }

    private static void worst(Due due) {
        FestivalFields x = new FestivalFields();
        x.place(60, 10);
        due.is("the only gate", NONE, x.worst());
        x.place(0, 20);
        due.is("the other one can't be reached", NONE, x.worst());
        x.way(0, 1, 2, 2000);
        due.is("all by the first, or by the second", 6, x.worst());
        x.place(0, 0);
        due.is("a PLACE without a RATE is no gate", 6, x.worst());
        x.place(0, 5);
        due.is("a gate that nobody needs", 6, x.worst());
        x.shut(1, true);
        due.is("the third can't be reached", NONE, x.worst());
        x.shut(1, false);
        x.crowd(0, 0);
        due.is("nobody, with gates", 0, x.worst());
        x.shut(0, true);
        x.shut(1, true);
        x.shut(3, true);
        due.is("nobody, all SHUT", NONE, x.worst());
        due.is("nobody, all SHUT", 0, x.empty());
    }

    private static void answersFollowChanges(Due due) {
        FestivalFields x = new FestivalFields();
        x.place(40, 4);
        x.place(0, 4);
        x.way(0, 1, 1, 1);
        due.is("empty", 9, x.empty());
        due.is("worst", NONE, x.worst());
        x.way(0, 1, 1, 3);
        due.is("empty behind way", 6, x.empty());
        due.is("worst behind way", 11, x.worst());
        x.crowd(0, 8);
        due.is("empty behind crowd", 2, x.empty());
        due.is("worst behind crowd", 3, x.worst());
        x.shut(1, true);
        due.is("empty behind shut", 2, x.empty());
        due.is("worst behind shut", NONE, x.worst());
        x.shut(1, false);
        x.place(5, 1);
        due.is("empty behind place", 5, x.empty());
        due.is("worst behind place", NONE, x.worst());
        due.illegal("a crowd that is none", () -> x.crowd(0, -1));
        due.is("empty behind that", 5, x.empty());
    }

    /** Whole networks by fixed seeds, with narrow WAYS and gates, so that persons must make room for others. */
    private static void networks(Due due, int first, int end) {
        for (int seed = first; seed < end; seed++) {
            Random random = new Random(seed);
            FestivalFields x = new FestivalFields();
            Plain plain = new Plain();
            int most = new int[] {20, 300, 3000, 20001}[seed % 4];
            int wide = new int[] {3, 60, 200, 2000}[random.nextInt(4)];
            int places = 2 + random.nextInt(7);
            for (int i = 0; i < places; i++) {
                int crowd = random.nextInt(most);
                int rate = random.nextInt(2) == 0 ? 0 : 1 + random.nextInt(random.nextBoolean() ? most / 4 % 2000 + 1 : 20);
                x.place(crowd, rate);
                plain.place(crowd, rate);
            }
            for (int i = 0; i < 14; i++) {
                int a = i < places - 1 ? i + 1 : random.nextInt(places);
                int b = i < places - 1 ? random.nextInt(i + 1) : random.nextInt(places);
                int length = 1 + random.nextInt(random.nextBoolean() ? 8 : 3);
                int w = 1 + random.nextInt(wide);
                if (a != b) {
                    x.way(a, b, length, w);
                    plain.way(a, b, length, w);
                }
            }
            due.is("network " + seed + ": empty", plain.empty(), x.empty());
            due.is("network " + seed + ": worst", plain.worst(), x.worst());
        }
    }
}
