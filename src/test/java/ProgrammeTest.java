import java.util.Random;

/** Promise 15: act, 16: tooMany, 17: shift, 18: forget. */
public final class ProgrammeTest {
    private static final int MAX = Integer.MAX_VALUE;
    private static final int MIN = Integer.MIN_VALUE;

    public static void main(String[] args) {
        Due due = new Due();
        refusals(due);
        oneAct(due);
        ties(due);
        apart(due);
        sixAtMost(due);
        forgets(due);
        programmes(due);
        due.end();
    }

    private static FestivalFields withWays(int... wides) {
        FestivalFields x = new FestivalFields();
        x.place(0, 0);
        x.place(0, 0);
        for (int wide : wides) {
            x.way(0, 1, 1, wide);
        }
        return x;
    }

    private static void refusals(Due due) {
        FestivalFields x = withWays(5);
        for (int way : new int[] {-1, 1, MAX, MIN}) {
            due.outOfBounds("act of WAY " + way, () -> x.act(way, false, 0, 0));
        }
        due.outOfBounds("the WAY is told first", () -> x.act(1, true, -1, -1));
        for (int wrong : new int[] {-1, 1001, MAX, MIN}) {
            due.illegal("ends " + wrong, () -> x.act(0, false, wrong, 0));
            due.illegal("people " + wrong, () -> x.act(0, true, 0, wrong));
        }
        due.is("none came", 0, x.count(6));
        due.outOfBounds("shift(0)", () -> x.shift(0));
        due.is("act(0, true, 1000, 1000)", 0, x.act(0, true, 1000, 1000));
        due.is("act(0, false, 0, 0)", 1, x.act(0, false, 0, 0));
        due.outOfBounds("shift(-1)", () -> x.shift(-1));
        due.outOfBounds("shift(2)", () -> x.shift(2));
        due.is("995 above, ten times", 9950, x.tooMany());
    }

    private static void oneAct(Due due) {
        FestivalFields x = withWays(50);
        x.act(0, false, 7, 50);
        due.is("as WIDE as it is", 0, x.tooMany());
        due.is("not shifted", 0, x.shift(0));
        x.forget();
        x.act(0, false, 7, 51);
        due.is("one above, ten minutes", 10, x.tooMany());
        due.is("not shifted for nothing", 0, x.shift(0));
    }

    private static void ties(Due due) {
        FestivalFields x = withWays(50);
        x.act(0, false, 0, 40);
        x.act(0, false, 0, 40);
        due.is("one behind the other", 0, x.tooMany());
        due.is("the first one's is least", 0, x.shift(0));
        due.is("the second is shifted", 10, x.shift(1));
        x.act(0, false, 10, 40);
        due.is("three", 0, x.tooMany());
        // By 0, 10, 10 and by 0, 20, 0 as well as 10, 0, 20 and so on; the sum first, then the first ones.
        due.is("three: first", 0, x.shift(0));
        due.is("three: second", 10, x.shift(1));
        due.is("three: third", 10, x.shift(2));
        x.forget();
        x.act(0, false, 5, 40);
        x.act(0, false, 0, 40);
        due.is("the later one is shifted by 10, not the earlier by 20", 0, x.tooMany());
        due.is("later: first", 10, x.shift(0));
        due.is("later: second", 0, x.shift(1));
        x.forget();
        x.act(0, false, 10, 30);
        x.act(0, false, 5, 30);
        x.act(0, false, 0, 30);
        // By 20, 10, 0 too, but with a greater sum.
        due.is("the second goes behind the first", 0, x.tooMany());
        due.is("behind: first", 0, x.shift(0));
        due.is("behind: second", 20, x.shift(1));
        due.is("behind: third", 0, x.shift(2));
    }

    private static void apart(Due due) {
        FestivalFields x = withWays(50, 30);
        x.act(0, false, 0, 50);
        x.act(0, true, 0, 50);
        due.is("each direction has its own WIDE", 0, x.tooMany());
        due.is("not shifted", 0, x.shift(1));
        x.act(1, false, 3, 31);
        due.is("another WAY", 10, x.tooMany());
        x.act(1, false, 12, 30);
        due.is("they meet in one minute", 10, x.tooMany());
        due.is("it goes behind", 10, x.shift(3));
        due.is("the first stays", 0, x.shift(2));
    }

    private static void sixAtMost(Due due) {
        FestivalFields x = withWays(100);
        for (int i = 0; i < 6; i++) {
            due.is("act", i, x.act(0, false, 0, 100));
        }
        due.is("the seventh", FestivalFields.NONE, x.act(0, true, 0, 100));
        due.illegal("a seventh that is none", () -> x.act(0, false, -1, 0));
        due.is("ACTS", 6, x.count(6));
        due.is("two in each ten minutes", 3000, x.tooMany());
        int[] shifts = {0, 0, 0, 0, 10, 20};
        int sum = 0;
        for (int i = 0; i < 6; i++) {
            // Two above or four in one, one each in the others: what is above is the same, the sum of shifts is not.
            due.is("shift(" + i + ")", shifts[i], x.shift(i));
            sum += x.shift(i);
        }
        due.is("their sum", 30, sum);
        x.forget();
        for (int i = 0; i < 6; i++) {
            x.act(0, false, 1000, 1000);
        }
        due.is("the most", 57000, x.tooMany());
    }

    private static void forgets(Due due) {
        FestivalFields x = withWays(10);
        due.is("forget of none", 0, x.forget());
        x.act(0, false, 0, 20);
        x.act(0, false, 0, 20);
        due.is("tooMany", 200, x.tooMany());
        due.is("forget", 2, x.forget());
        due.is("forget again", 0, x.forget());
        due.is("ACTS", 0, x.count(6));
        due.is("tooMany of none", 0, x.tooMany());
        due.outOfBounds("shift of none", () -> x.shift(0));
        due.is("numbers begin anew", 0, x.act(0, false, 0, 5));
        due.is("tooMany of the new one", 0, x.tooMany());
    }

    /** Whole programmes by fixed seeds, dense enough that shifts matter. */
    private static void programmes(Due due) {
        for (int seed = 0; seed < 300; seed++) {
            Random random = new Random(seed);
            FestivalFields x = new FestivalFields();
            Plain plain = new Plain();
            for (int i = 0; i < 2; i++) {
                x.place(0, 0);
                plain.place(0, 0);
            }
            for (int i = 0; i < 2; i++) {
                int wide = 20 + random.nextInt(60);
                x.way(0, 1, 1, wide);
                plain.way(0, 1, 1, wide);
            }
            int acts = 2 + random.nextInt(5);
            for (int i = 0; i < acts; i++) {
                int way = random.nextInt(4) == 0 ? 1 : 0;
                boolean back = random.nextInt(5) == 0;
                int ends = seed % 2 == 0 ? 10 * random.nextInt(4) : random.nextInt(30);
                int people = seed % 3 == 0 ? 40 : 10 + random.nextInt(50);
                x.act(way, back, ends, people);
                plain.act(way, back, ends, people);
            }
            due.is("programme " + seed + ": tooMany", plain.tooMany(), x.tooMany());
            for (int i = 0; i < acts; i++) {
                due.is("programme " + seed + ": shift(" + i + ")", plain.shift(i), x.shift(i));
            }
        }
    }
}
