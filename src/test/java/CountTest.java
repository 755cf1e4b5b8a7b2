/** Promise 23: count. */
public final class CountTest {
    public static void main(String[] args) {
        counts();
        lookedAt();
        lookedAtStaysBehindOneThatThrew();
        lookedAtOfTooMany();
        places();
        placeOfTheLatestAlone();
        variables();
        thereNowOfEachTable();
        wrong();
        Check.finish("CountTest");
    }

    private static void counts() {
        FactKeeper x = new FactKeeper();
        x.table(1);
        x.table(2);
        Check.behind(x, 1, 4, 4);
        Check.behind(x, 1, 4, 5);
        Check.behind(x, 0, 4);
        x.remove(1, 0, 0);
        x.open(0, 0, 0);
        x.open(1, 0, 0);
        x.close(0);
        x.mark();
        Check.ask(x, "t1(H,C)");
        x.feed(0, 0, 0, 0, 0);
        x.end(13);
        int[] due = {13, 2, 4, 3, 0, 2, -1, 1, 1, 2, 1, 1, -1};
        for (int what = 0; what < due.length; what++) {
            int asked = what;
            Check.due("count(" + what + ")", due[what], () -> x.count(asked));
        }
        Check.due("count(21)", -1, () -> x.count(21));
    }

    private static void lookedAt() {
        FactKeeper x = new FactKeeper();
        x.table(1);
        Check.behind(x, 0, 1);
        Check.behind(x, 0, 2);
        Check.behind(x, 0, 3);
        Check.values(x, 2);
        x.find(0, 1, -1);
        Check.due("by find", 2, () -> x.count(5));
        x.changes(0, 0, -1);
        x.open(0, 0, -1);
        x.key(0, 1);
        x.fact(0, 7);
        Check.due("find is the latest", 2, () -> x.count(5));
        x.next(0);
        Check.due("by next", 1, () -> x.count(5));
        x.many(0, 1, -1);
        Check.due("by many", 3, () -> x.count(5));
        x.remove(0, 1, 0);
        Check.due("by remove", 2, () -> x.count(5));
        Check.ask(x, "t0(A),t0(B)");
        Check.due("by question", 3 + 6, () -> x.count(5));
        Check.thrown("find", IllegalArgumentException.class, () -> x.find(0, 16, -1));
        Check.broken(x, "t0(A),", 6);
        Check.due("not by one that threw", 9, () -> x.count(5));
        x.close(0);
        Check.due("not by close", 9, () -> x.count(5));
    }

    // "by the latest find, many, remove, next or question (that threw nothing"
    private static void lookedAtStaysBehindOneThatThrew() {
        FactKeeper x = new FactKeeper();
        x.table(1);
        for (int i = 0; i < 5; i++) {
            Check.behind(x, 0, i);
        }
        x.open(0, 0, -1);
        x.many(0, 0, -1);
        Check.thrown("find", IllegalArgumentException.class, () -> x.find(0, 0, 6));
        Check.thrown("many", java.util.NoSuchElementException.class, () -> x.many(1, 0, -1));
        Check.thrown("remove", IllegalArgumentException.class, () -> x.remove(0, 0, 2));
        Check.thrown("next", java.util.NoSuchElementException.class, () -> x.next(1));
        Check.thrown("next", IllegalArgumentException.class, () -> x.next(10));
        Check.thrown("question", IllegalArgumentException.class, () -> Check.ask(x, "t0(A)", 6));
        Check.thrown("question", UnsupportedOperationException.class, () -> Check.ask(x, "t0(A),t0(B),t1(C)"));
        Check.due("of many yet", 5, () -> x.count(5));
        x.next(0);
        Check.due("of next", 1, () -> x.count(5));
        Check.solved(x, "1<2", 1, 0);
    }

    // "of question, ArithmeticException: 50001 then"
    private static void lookedAtOfTooMany() {
        FactKeeper x = new FactKeeper();
        x.table(1);
        for (int i = 0; i < 40; i++) {
            x.add(0, 0);
        }
        Check.thrown("too many", ArithmeticException.class, () -> Check.ask(x, "t0(A),t0(B),t0(C)"));
        Check.due("one more than may be", 50001, () -> x.count(5));
        Check.broken(x, "?", 0);
        Check.due("one more than may be, yet", 50001, () -> x.count(5));
        x.find(0, 0, -1);
        Check.due("of find", 1, () -> x.count(5));
    }

    // "PLACE of the latest question that was broken, -1 if the latest was not, or before"
    private static void placeOfTheLatestAlone() {
        FactKeeper x = new FactKeeper();
        x.table(1);
        for (int i = 0; i < 40; i++) {
            x.add(0, 0);
        }
        Check.due("before", -1, () -> x.count(6));
        Check.broken(x, "t0(A)?", 5);
        x.find(0, 0, -1);
        x.mark();
        Check.thrown("find", IllegalArgumentException.class, () -> x.find(0, 0, 99));
        Check.due("yet", 5, () -> x.count(6));
        Check.broken(x, "?", 0);
        Check.solved(x, "t0(A)", 40, 40);
        Check.broken(x, "t0(A),", 6);
        Check.thrown("too many", ArithmeticException.class, () -> Check.ask(x, "t0(A),t0(B),t0(C)"));
        Check.due("the latest was not broken", -1, () -> x.count(6));
        Check.broken(x, "t0(A,", 5);
        Check.thrown("at no time", IllegalArgumentException.class, () -> Check.ask(x, "t0(A,", 99));
        Check.due("the latest was not read", -1, () -> x.count(6));
    }

    // "VARIABLES of the latest question that threw nothing"
    private static void variables() {
        FactKeeper x = new FactKeeper();
        x.table(2);
        Check.due("before", 0, () -> x.count(9));
        String[] texts = {"1<2", "t0(A,_)", "t0(A,A)", "t0(H,A)", "!t0(A,B)", "A:1+1,B:A+A,t0(A,C)", "t0(A,B),t0(C,D)"};
        int[] due = {0, 1, 1, 2, 0, 3, 4};
        for (int i = 0; i < texts.length; i++) {
            String text = texts[i];
            Check.answer(() -> Check.ask(x, text));
            Check.due(text + " variables", due[i], () -> x.count(9));
            Check.broken(x, "t0(A,B),t0(C,D),t0(E,F),t0(G,H),", 32);
            Check.due(text + " variables yet", due[i], () -> x.count(9));
            Check.thrown("at no time", IllegalArgumentException.class, () -> Check.ask(x, "t0(G,H)", 1));
            Check.due(text + " variables yet", due[i], () -> x.count(9));
        }
    }

    // "10 ..: FACTS of TABLE what - 10 that ARE THERE now (-1: no such TABLE), up to 21"
    private static void thereNowOfEachTable() {
        FactKeeper x = new FactKeeper();
        for (int t = 0; t < 12; t++) {
            int what = 10 + t;
            Check.due("no such table", -1, () -> x.count(what));
            x.table(1);
            Check.due("none", 0, () -> x.count(what));
            for (int i = 0; i <= t; i++) {
                x.add(t, i % 2);
            }
            x.remove(t, 0, 0);
            Check.due("all but one", t, () -> x.count(what));
        }
        for (int t = 0; t < 12; t++) {
            int there = t;
            Check.due("of table " + t, there, () -> x.count(10 + there));
        }
        Check.thrown("up to 21", IllegalArgumentException.class, () -> x.count(22));
        Check.due("tables", 12, () -> x.count(1));
        Check.due("kept", 78, () -> x.count(3));
    }

    private static void places() {
        FactKeeper x = new FactKeeper();
        Check.broken(x, "1<2 ?", 4);
        Check.due("the latest was broken", 4, () -> x.count(6));
        Check.solved(x, "1<2", 1, 0);
        Check.broken(x, "", 0);
    }

    private static void wrong() {
        FactKeeper x = new FactKeeper();
        for (int what : new int[] {-1, 22, Integer.MAX_VALUE, Integer.MIN_VALUE}) {
            Check.thrown("count(" + what + ")", IllegalArgumentException.class, () -> x.count(what));
        }
    }
}
