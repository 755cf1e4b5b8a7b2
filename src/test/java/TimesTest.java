import java.util.NoSuchElementException;

/** Promises 16 to 20: mark, back, purge, changes, found. */
public final class TimesTest {
    public static void main(String[] args) {
        mark();
        back();
        backToTheLatestMarkAlone();
        backOverBack();
        backWithoutChanges();
        backAsksNoKeys();
        backInIndexes();
        backAndPurgeInEveryColumn();
        backManyTimes();
        purge();
        purgeThoseThatDiedByThen();
        purgeAndIndexes();
        changes();
        changesBetween();
        found();
        Check.finish("TimesTest");
    }

    private static void mark() {
        FactKeeper x = new FactKeeper();
        for (int i = 1; i <= 8; i++) {
            int marks = i;
            Check.due("mark", marks, () -> x.mark());
        }
        Check.thrown("the 9th", IllegalStateException.class, () -> x.mark());
        Check.due("marks", 8, () -> x.count(8));
        Check.due("back without changes", 0, () -> x.back(true));
        Check.due("one less", 7, () -> x.count(8));
        Check.due("mark again", 8, () -> x.mark());
    }

    private static void back() {
        FactKeeper x = new FactKeeper();
        x.table(2);
        Check.thrown("no mark", IllegalStateException.class, () -> x.back(false));
        Check.behind(x, 0, 1, 1);
        Check.behind(x, 0, 2, 2);
        x.mark();
        Check.ahead(x, 0, 3, 3);
        x.remove(0, 0, 1);
        Check.due("all are turned", 4, () -> x.back(true));
        Check.due("time", 10, () -> x.count(2));
        // Turned: 1 went, so 3 comes; 0 went, so 4; 2 went, so 5; 2 came, so 5, which stands for it, goes.
        Check.due("there", 2, () -> x.count(10));
        Check.due("kept", 6, () -> x.count(3));
        Check.due("the first", 4, () -> x.find(0, 0, -1));
        Check.due("the latest first", 7, () -> x.fact(3, 5));
        Check.due("with the same", 2, () -> x.fact(3, 1));
        Check.due("directly behind it", 5, () -> x.fact(3, 7));
        Check.due("what stood for it went", 10, () -> x.fact(5, 6));
        Check.due("as it was", 2, () -> x.many(0, 0, 2));
        Check.thrown("no mark any more", IllegalStateException.class, () -> x.back(true));
        x.mark();
        Check.behind(x, 0, 7, 7);
        Check.due("not taken back", 0, () -> x.back(false));
        Check.due("it stays", 3, () -> x.count(10));
        x.mark();
        Check.due("only what came since", 0, () -> x.back(true));
    }

    // "The latest MARK goes ..; taken back, all changes since are turned, the latest first"
    private static void backToTheLatestMarkAlone() {
        FactKeeper x = new FactKeeper();
        x.table(1);
        x.add(0, 0);
        x.mark();
        x.add(0, 0);
        x.add(0, 0);
        x.mark();
        x.add(0, 0);
        Check.due("one since the latest", 1, () -> x.back(true));
        Check.due("it went", 5, () -> x.fact(3, 6));
        Check.due("three are there", 3, () -> x.count(10));
        x.mark();
        x.remove(0, 0, 0);
        Check.due("not taken back", 0, () -> x.back(false));
        Check.due("one mark", 1, () -> x.count(8));
        // Since the first: 1, 2 and 3 came, 3 went, 0 went.
        Check.due("five since the first", 5, () -> x.back(true));
        Check.due("time", 11, () -> x.count(2));
        Check.due("one is there", 1, () -> x.count(10));
        Check.due("which stands for the first", 4, () -> x.find(0, 0, -1));
        Check.due("turned first", 7, () -> x.fact(4, 5));
        Check.due("then what stands for the last", 8, () -> x.fact(5, 5));
        Check.due("which goes again", 9, () -> x.fact(5, 6));
        Check.due("then the one before", 10, () -> x.fact(2, 6));
        Check.due("then the one before that", 11, () -> x.fact(1, 6));
        Check.due("no mark", 0, () -> x.count(8));
    }

    private static void backWithoutChanges() {
        FactKeeper x = new FactKeeper();
        x.table(1);
        x.add(0, 0);
        for (int i = 0; i < 8; i++) {
            x.mark();
        }
        for (int i = 7; i >= 0; i--) {
            int left = i;
            Check.due("nothing to turn", 0, () -> x.back(left % 2 == 0));
            Check.due("marks left", left, () -> x.count(8));
        }
        Check.thrown("none is left", IllegalStateException.class, () -> x.back(true));
        Check.thrown("none is left", IllegalStateException.class, () -> x.back(false));
        Check.due("time", 1, () -> x.count(2));
    }

    // "a new FACT with the same comes directly behind it in the ROW, and stands for it (KEYS are not asked)"
    private static void backAsksNoKeys() {
        FactKeeper x = new FactKeeper();
        x.table(2);
        Check.behind(x, 0, 1, 5);
        Check.behind(x, 0, 1, 6);
        x.mark();
        Check.values(x, 1, 5);
        x.remove(0, 3, 0);
        x.key(0, 1);
        Check.due("back", 1, () -> x.back(true));
        Check.due("two have the same", 2, () -> x.many(0, 1, -1));
        Check.due("directly behind it", 1, () -> x.fact(2, 7));
        Check.due("the other is behind both", 2, () -> x.fact(1, 7));
        Check.due("with the same", 5, () -> x.fact(2, 1));
        Check.due("of its table", 0, () -> x.fact(2, 4));
        Check.thrown("add asks the key", UnsupportedOperationException.class, () -> x.add(0, 0));
    }

    private static void backOverBack() {
        FactKeeper x = new FactKeeper();
        x.table(1);
        Check.behind(x, 0, 1);
        x.mark();
        x.mark();
        x.remove(0, 0, 0);
        Check.due("one is turned", 1, () -> x.back(true));
        x.remove(0, 0, 0);
        Check.due("turned: what went, what came, what went", 3, () -> x.back(true));
        // 0 1' (for 0) went; 2 came for 1 and goes for it; 3 comes for 0, directly behind it.
        Check.due("there", 1, () -> x.count(10));
        Check.due("the one that is there", 3, () -> x.find(0, 0, -1));
        Check.due("directly behind the one that went", 1, () -> x.fact(3, 7));
        Check.due("behind it", 2, () -> x.fact(1, 7));
        Check.due("behind that", 3, () -> x.fact(2, 7));
        x.mark();
        x.mark();
        Check.behind(x, 0, 5);
        x.back(false);
        Check.due("those of a mark that went, too", 1, () -> x.back(true));
    }

    private static void backInIndexes() {
        FactKeeper x = new FactKeeper();
        x.table(2);
        x.index(0, 0);
        Check.behind(x, 0, 1, 0);
        Check.behind(x, 0, 2, 1);
        Check.behind(x, 0, 1, 2);
        x.mark();
        Check.values(x, 1);
        x.remove(0, 1, 1);
        x.back(true);
        Check.behind(x, 0, 1, 3);
        Check.due("many", 3, () -> x.many(0, 1, -1));
        Check.due("looked at those with it alone", 5, () -> x.count(5));
        x.open(0, 1, -1);
        Check.due("in the row's order", 4, () -> x.next(0));
        Check.due("in the row's order", 3, () -> x.next(0));
        Check.due("in the row's order", 5, () -> x.next(0));
        Check.due("none", -1, () -> x.next(0));
    }

    private static void backAndPurgeInEveryColumn() {
        for (int columns = 1; columns <= 4; columns++) {
            FactKeeper x = new FactKeeper();
            x.table(columns);
            for (int k = 0; k < columns; k++) {
                x.index(0, k);
            }
            Check.behind(x, 0, 1, 2, 3, 4);
            Check.behind(x, 0, 5, 6, 7, 8);
            x.mark();
            x.remove(0, 0, 1);
            Check.due("back of " + columns, 2, () -> x.back(true));
            for (int k = 0; k < 4; k++) {
                int column = k;
                Check.due("the same in column " + k, k < columns ? 5 + k : 0, () -> x.fact(2, column));
            }
            oneInEachIndex(x, columns, 2);
            Check.due("purge of " + columns, 2, () -> x.purge(-1));
            oneInEachIndex(x, columns, 1);
        }
    }

    private static void oneInEachIndex(FactKeeper x, int columns, int lookedAt) {
        Check.values(x, 5, 6, 7, 8);
        for (int k = 0; k < columns; k++) {
            int mask = 1 << k;
            Check.due("find by column " + k, 2, () -> x.find(0, mask, -1));
            Check.due("looked at", lookedAt, () -> x.count(5));
        }
    }

    /** More changes in all than can lie between marks: those without a mark before them are forgotten. */
    private static void backManyTimes() {
        FactKeeper x = new FactKeeper();
        x.table(1);
        for (int i = 0; i < 100; i++) {
            x.add(0, i % 2);
        }
        for (int i = 0; i < 65; i++) {
            x.mark();
            x.remove(0, 0, 1);
            Check.due("back, round " + i, 100, () -> x.back(true));
            Check.due("purge, round " + i, 100, () -> x.purge(-1));
        }
        Check.due("there", 100, () -> x.count(10));
        Check.due("numbers", 6600, () -> x.add(0, 0));
        // What stood for one that is not kept any more stands for none that comes later.
        x.mark();
        Check.due("one comes", 6601, () -> x.add(0, 0));
        Check.due("one is turned", 1, () -> x.back(true));
        Check.due("the one that came went", x.count(2), () -> x.fact(6601, 6));
        Check.due("all others are there", 101, () -> x.count(10));
    }

    private static void purge() {
        FactKeeper x = new FactKeeper();
        x.table(1);
        x.table(1);
        for (int i = 0; i < 4; i++) {
            Check.behind(x, i % 2, i);
        }
        x.remove(0, 0, 0);
        x.remove(1, 0, 0);
        x.open(0, 0, -1);
        Check.thrown("a cursor", IllegalStateException.class, () -> x.purge(-1));
        Check.thrown("a time before a cursor", IllegalArgumentException.class, () -> x.purge(7));
        x.close(0);
        x.mark();
        Check.thrown("a mark", IllegalStateException.class, () -> x.purge(-1));
        x.back(false);
        Check.thrown("at -2", IllegalArgumentException.class, () -> x.purge(-2));
        Check.due("before one died", 0, () -> x.purge(4));
        Check.due("horizon", 4, () -> x.count(4));
        Check.due("when one died", 1, () -> x.purge(5));
        Check.due("kept", 3, () -> x.count(3));
        Check.thrown("not kept", NoSuchElementException.class, () -> x.fact(0, 0));
        Check.due("kept yet", 6, () -> x.fact(1, 6));
        Check.thrown("ahead of the horizon", IllegalArgumentException.class, () -> x.find(0, 0, 4));
        Check.thrown("ahead of the horizon", IllegalArgumentException.class, () -> x.open(0, 0, 4));
        Check.thrown("ahead of the horizon", IllegalArgumentException.class, () -> x.changes(0, 4, 5));
        Check.thrown("ahead of the horizon", IllegalArgumentException.class, () -> x.purge(4));
        Check.due("at the horizon", 2, () -> x.many(1, 0, 5));
        Check.due("the same again", 0, () -> x.purge(5));
        Check.due("now", 1, () -> x.purge(-1));
        Check.due("horizon", 6, () -> x.count(4));
        Check.due("numbers go on", 4, () -> Check.behind(x, 0, 9));
    }

    // "FACTS that DIED at T or before are not kept any more. Answers how many these were."
    private static void purgeThoseThatDiedByThen() {
        for (int until = 0; until <= 9; until++) {
            FactKeeper x = new FactKeeper();
            x.table(1);
            x.table(1);
            for (int i = 0; i < 5; i++) {
                x.add(i % 2, 0);
            }
            // At 6, 7 and 8 the facts 0, 2 and 4 die, at 9 the fact 1.
            x.remove(0, 0, 1);
            x.remove(1, 0, 0);
            int at = until;
            int gone = Math.max(0, until - 5);
            Check.due("purge " + until, gone, () -> x.purge(at));
            Check.due("kept", 5 - gone, () -> x.count(3));
            Check.due("horizon", until, () -> x.count(4));
            Check.due("the time stays", 9, () -> x.count(2));
            Check.due("the same again", 0, () -> x.purge(at));
            Check.due("the others", 4 - gone, () -> x.purge(-1));
            Check.due("horizon now", 9, () -> x.count(4));
            Check.due("one is kept", 0, () -> x.fact(3, 7));
        }
    }

    private static void purgeAndIndexes() {
        FactKeeper x = new FactKeeper();
        x.table(1);
        x.index(0, 0);
        for (int i = 0; i < 6; i++) {
            Check.ahead(x, 0, i % 2 * 64);
        }
        Check.values(x, 64);
        x.remove(0, 1, 0);
        x.remove(0, 1, 0);
        x.purge(-1);
        Check.due("many", 1, () -> x.many(0, 1, -1));
        Check.due("looked at", 1, () -> x.count(5));
        Check.behind(x, 0, 64);
        Check.ahead(x, 0, 64);
        Check.due("first of the index", 7, () -> x.find(0, 1, -1));
        Check.due("many", 3, () -> x.many(0, 1, -1));
        Check.due("looked at", 3, () -> x.count(5));
        Check.due("all", 6, () -> x.many(0, 0, -1));
    }

    private static void changes() {
        FactKeeper x = new FactKeeper();
        x.table(1);
        x.table(1);
        Check.behind(x, 0, 0);
        Check.behind(x, 0, 1);
        Check.ahead(x, 0, 2);
        Check.behind(x, 1, 3);
        x.remove(0, 0, 1);
        Check.ahead(x, 0, 4);
        Check.ahead(x, 0, 5);
        Check.due("changes", 5, () -> x.changes(0, 4, -1));
        int[] due = {5, 4, -3, -1, -2};
        for (int i = 0; i < due.length; i++) {
            int asked = i;
            Check.due("found " + i, due[i], () -> x.found(asked));
        }
        Check.thrown("found 5", IndexOutOfBoundsException.class, () -> x.found(5));
        Check.thrown("found -1", IndexOutOfBoundsException.class, () -> x.found(-1));
        Check.thrown("changes of no table", NoSuchElementException.class, () -> x.changes(2, 0, 0));
        Check.thrown("a time before no table", IllegalArgumentException.class, () -> x.changes(2, 0, 99));
        Check.thrown("the first time", IllegalArgumentException.class, () -> x.changes(0, -2, 0));
        Check.due("found stays", -2, () -> x.found(4));
        x.purge(-1);
        Check.due("found stays", -2, () -> x.found(4));
        Check.due("the same times", 0, () -> x.changes(0, -1, 9));
        Check.thrown("none", IndexOutOfBoundsException.class, () -> x.found(0));
    }

    // "its FACTS that ARE THERE at the second time, not at the first; then those at the first, not at the second"
    private static void changesBetween() {
        FactKeeper x = new FactKeeper();
        x.table(1);
        Check.due("of an empty table", 0, () -> x.changes(0, 0, 0));
        for (int i = 0; i < 4; i++) {
            Check.behind(x, 0, i);
        }
        Check.values(x, 1);
        x.remove(0, 1, 0);
        Check.values(x, 3);
        x.remove(0, 1, 0);
        // There were 0 from 1 on, 1 from 2 to 5, 2 from 3 on, 3 from 4 to 6.
        int[][] there = {{}, {0}, {0, 1}, {0, 1, 2}, {0, 1, 2, 3}, {0, 2, 3}, {0, 2}};
        for (int first = 0; first < there.length; first++) {
            for (int second = 0; second < there.length; second++) {
                changesOf(x, first, second, there);
            }
        }
    }

    private static void changesOf(FactKeeper x, int first, int second, int[][] there) {
        String said = "changes " + first + ", " + second;
        int[] due = new int[8];
        int many = 0;
        for (int number = 0; number < 4; number++) {
            if (has(there[second], number) && !has(there[first], number)) {
                due[many++] = number;
            }
        }
        for (int number = 0; number < 4; number++) {
            if (has(there[first], number) && !has(there[second], number)) {
                due[many++] = -1 - number;
            }
        }
        Check.due(said, many, () -> x.changes(0, first, second));
        for (int i = 0; i < many; i++) {
            int asked = i;
            Check.due(said + ", found " + i, due[i], () -> x.found(asked));
        }
        int behind = many;
        Check.thrown(said + ", no more", IndexOutOfBoundsException.class, () -> x.found(behind));
    }

    private static boolean has(int[] some, int one) {
        for (int other : some) {
            if (other == one) {
                return true;
            }
        }
        return false;
    }

    // "there is none: IndexOutOfBoundsException"
    private static void found() {
        FactKeeper x = new FactKeeper();
        x.table(1);
        for (int i : new int[] {-1, 0, 1, Integer.MIN_VALUE, Integer.MAX_VALUE}) {
            Check.thrown("before any changes, " + i, IndexOutOfBoundsException.class, () -> x.found(i));
        }
        x.add(0, 0);
        x.add(0, 0);
        x.changes(0, 0, -1);
        Check.due("the first", 0, () -> x.found(0));
        Check.due("the last", 1, () -> x.found(1));
        for (int i : new int[] {-1, 2, Integer.MIN_VALUE, Integer.MAX_VALUE}) {
            Check.thrown("none is the " + i + "-th", IndexOutOfBoundsException.class, () -> x.found(i));
        }
        x.changes(0, 1, 2);
        Check.due("of the latest changes", 1, () -> x.found(0));
        Check.thrown("not of those before", IndexOutOfBoundsException.class, () -> x.found(1));
    }
}
