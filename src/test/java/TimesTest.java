import java.util.NoSuchElementException;

/** Promises 16 to 20: mark, back, purge, changes, found. */
public final class TimesTest {
    public static void main(String[] args) {
        mark();
        back();
        backOverBack();
        backInIndexes();
        backManyTimes();
        purge();
        purgeAndIndexes();
        changes();
        Check.finish("TimesTest");
    }

    private static void mark() {
        FactKeeper x = new FactKeeper();
        for (int i = 1; i <= 8; i++) {
            int marks = i;
            Check.due("mark", marks, () -> x.mark());
        }
        Check.thrown("the 9th", IllegalStateException.class, () -> x.mark());
        Check.due("marks", 8, () -> x.count(8));
        Check.due("back without changes", 0, () -> x.back(true));
        Check.due("one less", 7, () -> x.count(8));
        Check.due("mark again", 8, () -> x.mark());
    }

    private static void back() {
        FactKeeper x = new FactKeeper();
        x.table(2);
        Check.thrown("no mark", IllegalStateException.class, () -> x.back(false));
        Check.behind(x, 0, 1, 1);
        Check.behind(x, 0, 2, 2);
        x.mark();
        Check.ahead(x, 0, 3, 3);
        x.remove(0, 0, 1);
        Check.due("all are turned", 4, () -> x.back(true));
        Check.due("time", 10, () -> x.count(2));
        // Turned: 1 went, so 3 comes; 0 went, so 4; 2 went, so 5; 2 came, so 5, which stands for it, goes.
        Check.due("there", 2, () -> x.count(10));
        Check.due("kept", 6, () -> x.count(3));
        Check.due("the first", 4, () -> x.find(0, 0, -1));
        Check.due("the latest first", 7, () -> x.fact(3, 5));
        Check.due("with the same", 2, () -> x.fact(3, 1));
        Check.due("directly behind it", 5, () -> x.fact(3, 7));
        Check.due("what stood for it went", 10, () -> x.fact(5, 6));
        Check.due("as it was", 2, () -> x.many(0, 0, 2));
        Check.thrown("no mark any more", IllegalStateException.class, () -> x.back(true));
        x.mark();
        Check.behind(x, 0, 7, 7);
        Check.due("not taken back", 0, () -> x.back(false));
        Check.due("it stays", 3, () -> x.count(10));
        x.mark();
        Check.due("only what came since", 0, () -> x.back(true));
    }

    private static void backOverBack() {
        FactKeeper x = new FactKeeper();
        x.table(1);
        Check.behind(x, 0, 1);
        x.mark();
        x.mark();
        x.remove(0, 0, 0);
        Check.due("one is turned", 1, () -> x.back(true));
        x.remove(0, 0, 0);
        Check.due("turned: what went, what came, what went", 3, () -> x.back(true));
        // 0 1' (for 0) went; 2 came for 1 and goes for it; 3 comes for 0, directly behind it.
        Check.due("there", 1, () -> x.count(10));
        Check.due("the one that is there", 3, () -> x.find(0, 0, -1));
        Check.due("directly behind the one that went", 1, () -> x.fact(3, 7));
        Check.due("behind it", 2, () -> x.fact(1, 7));
        Check.due("behind that", 3, () -> x.fact(2, 7));
        x.mark();
        x.mark();
        Check.behind(x, 0, 5);
        x.back(false);
        Check.due("those of a mark that went, too", 1, () -> x.back(true));
    }

    private static void backInIndexes() {
        FactKeeper x = new FactKeeper();
        x.table(2);
        x.index(0, 0);
        Check.behind(x, 0, 1, 0);
        Check.behind(x, 0, 2, 1);
        Check.behind(x, 0, 1, 2);
        x.mark();
        Check.values(x, 1);
        x.remove(0, 1, 1);
        x.back(true);
        Check.behind(x, 0, 1, 3);
        Check.due("many", 3, () -> x.many(0, 1, -1));
        Check.due("looked at those with it alone", 5, () -> x.count(5));
        x.open(0, 1, -1);
        Check.due("in the row's order", 4, () -> x.next(0));
        Check.due("in the row's order", 3, () -> x.next(0));
        Check.due("in the row's order", 5, () -> x.next(0));
        Check.due("none", -1, () -> x.next(0));
    }

    /** More changes in all than can lie between marks: those without a mark before them are forgotten. */
    private static void backManyTimes() {
        FactKeeper x = new FactKeeper();
        x.table(1);
        for (int i = 0; i < 100; i++) {
            x.add(0, i % 2);
        }
        for (int i = 0; i < 65; i++) {
            x.mark();
            x.remove(0, 0, 1);
            Check.due("back, round " + i, 100, () -> x.back(true));
            Check.due("purge, round " + i, 100, () -> x.purge(-1));
        }
        Check.due("there", 100, () -> x.count(10));
        Check.due("numbers", 6600, () -> x.add(0, 0));
    }

    private static void purge() {
        FactKeeper x = new FactKeeper();
        x.table(1);
        x.table(1);
        for (int i = 0; i < 4; i++) {
            Check.behind(x, i % 2, i);
        }
        x.remove(0, 0, 0);
        x.remove(1, 0, 0);
        x.open(0, 0, -1);
        Check.thrown("a cursor", IllegalStateException.class, () -> x.purge(-1));
        Check.thrown("a time before a cursor", IllegalArgumentException.class, () -> x.purge(7));
        x.close(0);
        x.mark();
        Check.thrown("a mark", IllegalStateException.class, () -> x.purge(-1));
        x.back(false);
        Check.thrown("at -2", IllegalArgumentException.class, () -> x.purge(-2));
        Check.due("before one died", 0, () -> x.purge(4));
        Check.due("horizon", 4, () -> x.count(4));
        Check.due("when one died", 1, () -> x.purge(5));
        Check.due("kept", 3, () -> x.count(3));
        Check.thrown("not kept", NoSuchElementException.class, () -> x.fact(0, 0));
        Check.due("kept yet", 6, () -> x.fact(1, 6));
        Check.thrown("ahead of the horizon", IllegalArgumentException.class, () -> x.find(0, 0, 4));
        Check.thrown("ahead of the horizon", IllegalArgumentException.class, () -> x.open(0, 0, 4));
        Check.thrown("ahead of the horizon", IllegalArgumentException.class, () -> x.changes(0, 4, 5));
        Check.thrown("ahead of the horizon", IllegalArgumentException.class, () -> x.purge(4));
        Check.due("at the horizon", 2, () -> x.many(1, 0, 5));
        Check.due("the same again", 0, () -> x.purge(5));
        Check.due("now", 1, () -> x.purge(-1));
        Check.due("horizon", 6, () -> x.count(4));
        Check.due("numbers go on", 4, () -> Check.behind(x, 0, 9));
    }

    private static void purgeAndIndexes() {
        FactKeeper x = new FactKeeper();
        x.table(1);
        x.index(0, 0);
        for (int i = 0; i < 6; i++) {
            Check.ahead(x, 0, i % 2 * 64);
        }
        Check.values(x, 64);
        x.remove(0, 1, 0);
        x.remove(0, 1, 0);
        x.purge(-1);
        Check.due("many", 1, () -> x.many(0, 1, -1));
        Check.due("looked at", 1, () -> x.count(5));
        Check.behind(x, 0, 64);
        Check.ahead(x, 0, 64);
        Check.due("first of the index", 7, () -> x.find(0, 1, -1));
        Check.due("many", 3, () -> x.many(0, 1, -1));
        Check.due("looked at", 3, () -> x.count(5));
        Check.due("all", 6, () -> x.many(0, 0, -1));
    }

    private static void changes() {
        FactKeeper x = new FactKeeper();
        x.table(1);
        x.table(1);
        Check.behind(x, 0, 0);
        Check.behind(x, 0, 1);
        Check.ahead(x, 0, 2);
        Check.behind(x, 1, 3);
        x.remove(0, 0, 1);
        Check.ahead(x, 0, 4);
        Check.ahead(x, 0, 5);
        Check.due("changes", 5, () -> x.changes(0, 4, -1));
        int[] due = {5, 4, -3, -1, -2};
        for (int i = 0; i < due.length; i++) {
            int asked = i;
            Check.due("found " + i, due[i], () -> x.found(asked));
        }
        Check.thrown("found 5", IndexOutOfBoundsException.class, () -> x.found(5));
        Check.thrown("found -1", IndexOutOfBoundsException.class, () -> x.found(-1));
        Check.thrown("changes of no table", NoSuchElementException.class, () -> x.changes(2, 0, 0));
        Check.thrown("a time before no table", IllegalArgumentException.class, () -> x.changes(2, 0, 99));
        Check.thrown("the first time", IllegalArgumentException.class, () -> x.changes(0, -2, 0));
        Check.due("found stays", -2, () -> x.found(4));
        x.purge(-1);
        Check.due("found stays", -2, () -> x.found(4));
        Check.due("the same times", 0, () -> x.changes(0, -1, 9));
        Check.thrown("none", IndexOutOfBoundsException.class, () -> x.found(0));
    }
}
