/** Promise 27: count, and promise 1: what a new object counts. */
public final class CountTest {
    public static void main(String[] args) {
        Due due = new Due();
        FestivalFields x = new FestivalFields();
        for (int what = 0; what <= 9; what++) {
            due.is("new: count(" + what + ")", 0, x.count(what));
        }
        noneForOthers(due, x);
        fill(x);
        due.is("count NOW", 42, x.count(0));
        due.is("count TENTS", 2, x.count(1));
        due.is("count SQUARES with one", 7, x.count(2));
        due.is("count PLACES", 3, x.count(3));
        due.is("count CROWD", 60, x.count(4));
        due.is("count WAYS", 2, x.count(5));
        due.is("count ACTS", 1, x.count(6));
        due.is("count PASSES", 2, x.count(7));
        due.is("count TERMS", 3, x.count(8));
        due.is("count LANES", 2, x.count(9));
        noneForOthers(due, x);
        due.end();
    }

    private static void fill(FestivalFields x) {
        x.minutes(42);
        x.tent(2, 2);
        x.tent(1, 1);
        x.tent(3, 1);
        x.strike(1);
        x.place(10, 0);
        x.place(20, 5);
        x.place(0, 7);
        x.crowd(2, 30);
        x.way(0, 1, 1, 1);
        x.way(1, 2, 8, 2000);
        x.act(0, true, 5, 5);
        x.pass(3, true, 1);
        x.pass(3, false, 2);
        Due.tape(x, "tents 5;people 3;noise 1 from 1 to 1");
        x.licence();
        x.lane(100, true);
        x.lane(101, true);
        x.lane(102, true);
        x.lane(101, false);
    }

    private static void noneForOthers(Due due, FestivalFields x) {
        int[] others = {-1, 10, 11, Integer.MAX_VALUE, Integer.MIN_VALUE};
        for (int what : others) {
            due.is("count(" + what + ")", FestivalFields.NONE, x.count(what));
        }
    }
}
