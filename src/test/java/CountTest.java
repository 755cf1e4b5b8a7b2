/** Promise 23: count. */
public final class CountTest {
    public static void main(String[] args) {
        counts();
        lookedAt();
        places();
        wrong();
        Check.finish("CountTest");
    }

    private static void counts() {
        FactKeeper x = new FactKeeper();
        x.table(1);
        x.table(2);
        Check.behind(x, 1, 4, 4);
        Check.behind(x, 1, 4, 5);
        Check.behind(x, 0, 4);
        x.remove(1, 0, 0);
        x.open(0, 0, 0);
        x.open(1, 0, 0);
        x.close(0);
        x.mark();
        Check.ask(x, "t1(H,C)");
        x.feed(0, 0, 0, 0, 0);
        x.end(13);
        int[] due = {13, 2, 4, 3, 0, 2, -1, 1, 1, 2, 1, 1, -1};
        for (int what = 0; what < due.length; what++) {
            int asked = what;
            Check.due("count(" + what + ")", due[what], () -> x.count(asked));
        }
        Check.due("count(21)", -1, () -> x.count(21));
    }

    private static void lookedAt() {
        FactKeeper x = new FactKeeper();
        x.table(1);
        Check.behind(x, 0, 1);
        Check.behind(x, 0, 2);
        Check.behind(x, 0, 3);
        Check.values(x, 2);
        x.find(0, 1, -1);
        Check.due("by find", 2, () -> x.count(5));
        x.changes(0, 0, -1);
        x.open(0, 0, -1);
        x.key(0, 1);
        x.fact(0, 7);
        Check.due("find is the latest", 2, () -> x.count(5));
        x.next(0);
        Check.due("by next", 1, () -> x.count(5));
        x.many(0, 1, -1);
        Check.due("by many", 3, () -> x.count(5));
        x.remove(0, 1, 0);
        Check.due("by remove", 2, () -> x.count(5));
        Check.ask(x, "t0(A),t0(B)");
        Check.due("by question", 3 + 6, () -> x.count(5));
        Check.thrown("find", IllegalArgumentException.class, () -> x.find(0, 16, -1));
        Check.broken(x, "t0(A),", 6);
        Check.due("not by one that threw", 9, () -> x.count(5));
        x.close(0);
        Check.due("not by close", 9, () -> x.count(5));
    }

    private static void places() {
        FactKeeper x = new FactKeeper();
        Check.broken(x, "1<2 ?", 4);
        Check.due("the latest was broken", 4, () -> x.count(6));
        Check.solved(x, "1<2", 1, 0);
        Check.broken(x, "", 0);
    }

    private static void wrong() {
        FactKeeper x = new FactKeeper();
        for (int what : new int[] {-1, 22, Integer.MAX_VALUE, Integer.MIN_VALUE}) {
            Check.thrown("count(" + what + ")", IllegalArgumentException.class, () -> x.count(what));
        }
    }
}
