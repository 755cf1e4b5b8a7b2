import java.util.NoSuchElementException;

/** Promises 1 to 7: a new object, feed, end, value, table, index, key. */
public final class TablesTest {
    public static void main(String[] args) {
        newObject();
        feed();
        end();
        value();
        table();
        index();
        indexOfEachColumn();
        indexFromNowOn();
        key();
        keyMasks();
        threeKeysOfEachTable();
        keyOfTwoThatHaveTheSame();
        keyAfterBack();
        Check.finish("TablesTest");
    }

    private static void newObject() {
        FactKeeper x = new FactKeeper();
        int[] due = {0, 0, 0, 0, 0, 0, -1, 0, 0, 0};
        for (int what = 0; what < due.length; what++) {
            int asked = what;
            Check.due("new count(" + what + ")", due[what], () -> x.count(asked));
        }
        for (int what = 10; what <= 21; what++) {
            int asked = what;
            Check.due("new count(" + what + ")", -1, () -> x.count(asked));
        }
        Check.thrown("new find", NoSuchElementException.class, () -> x.find(0, 0, -1));
        Check.thrown("new found", IndexOutOfBoundsException.class, () -> x.found(0));
        Check.thrown("new solution", IndexOutOfBoundsException.class, () -> x.solution(0, 0));
        Check.thrown("new back", IllegalStateException.class, () -> x.back(true));
        Check.due("new purge", 0, () -> x.purge(0));
        Check.thrown("new purge(1)", IllegalArgumentException.class, () -> x.purge(1));
    }

    private static void feed() {
        FactKeeper x = new FactKeeper();
        for (int i = 1; i <= 20; i++) {
            int length = 20 * i;
            Check.due("feed", length, () -> x.feed(0, 1, -1, 2, 3));
        }
        Check.thrown("feed 420", IndexOutOfBoundsException.class, () -> x.feed(0, 0, 0, 0, 0));
        Check.due("tape stays", 400, () -> x.count(0));
        x.end(381);
        Check.thrown("feed 401", IndexOutOfBoundsException.class, () -> x.feed(0, 0, 0, 0, 0));
        x.end(380);
        Check.due("feed to the brim", 400, () -> x.feed(0, 0, 0, 0, 0));
        FactKeeper y = new FactKeeper();
        // "1 < " "2   " " , 3" " # 4" " # 5": the highest byte first, and the bytes above 127 can not stand.
        y.feed(0x31203C20, 0x32202020, 0x202C2033, 0x20232034, 0x20232035);
        Check.thrown("the bytes' order", UnsupportedOperationException.class, () -> y.question(-1));
        Check.due("the bytes' order, place", 17, () -> y.count(6));
        y.feed(0x31203C20, 0x32208041, 0, 0, 0);
        y.end(8);
        Check.thrown("a high byte", UnsupportedOperationException.class, () -> y.question(-1));
        Check.due("a high byte, place", 6, () -> y.count(6));
    }

    private static void end() {
        FactKeeper x = new FactKeeper();
        Check.due("end(0)", 0, () -> x.end(0));
        Check.thrown("end(1)", IllegalArgumentException.class, () -> x.end(1));
        Check.thrown("end(-1)", IllegalArgumentException.class, () -> x.end(-1));
        x.feed(0, 0, 0, 0, 0);
        Check.thrown("end(21)", IllegalArgumentException.class, () -> x.end(21));
        Check.due("end(20)", 20, () -> x.end(20));
        Check.due("end(7)", 7, () -> x.end(7));
        Check.due("length", 7, () -> x.count(0));
        Check.due("feed behind", 27, () -> x.feed(0, 0, 0, 0, 0));
        Check.thrown("end(min)", IllegalArgumentException.class, () -> x.end(Integer.MIN_VALUE));
    }

    private static void value() {
        FactKeeper x = new FactKeeper();
        for (int k = 0; k < 4; k++) {
            int asked = k;
            Check.due("value", 0, () -> x.value(asked, asked + 5));
        }
        for (int k = 0; k < 4; k++) {
            int asked = k;
            Check.due("value again", asked + 5, () -> x.value(asked, Integer.MIN_VALUE));
        }
        Check.thrown("value(4)", IllegalArgumentException.class, () -> x.value(4, 0));
        Check.thrown("value(-1)", IllegalArgumentException.class, () -> x.value(-1, 0));
        Check.due("value kept", Integer.MIN_VALUE, () -> x.value(3, 1));
    }

    private static void table() {
        FactKeeper x = new FactKeeper();
        Check.thrown("table(0)", IllegalArgumentException.class, () -> x.table(0));
        Check.thrown("table(5)", IllegalArgumentException.class, () -> x.table(5));
        for (int t = 0; t < 12; t++) {
            int number = t;
            Check.due("table", number, () -> x.table(number % 4 + 1));
        }
        Check.thrown("13th table", IllegalStateException.class, () -> x.table(1));
        Check.thrown("13th table of no columns", IllegalArgumentException.class, () -> x.table(0));
        Check.due("tables", 12, () -> x.count(1));
        Check.due("no facts", 0, () -> x.count(21));
    }

    private static void index() {
        FactKeeper x = new FactKeeper();
        x.table(2);
        Check.thrown("index of no table", NoSuchElementException.class, () -> x.index(1, 0));
        Check.thrown("no table before no column", NoSuchElementException.class, () -> x.index(1, 9));
        Check.thrown("no table -1", NoSuchElementException.class, () -> x.index(-1, 0));
        Check.thrown("no table 12", NoSuchElementException.class, () -> x.index(12, 0));
        Check.thrown("no column 2", IllegalArgumentException.class, () -> x.index(0, 2));
        Check.thrown("no column -1", IllegalArgumentException.class, () -> x.index(0, -1));
        Check.behind(x, 0, 1, 7);
        Check.behind(x, 0, 2, 7);
        Check.behind(x, 0, 1, 8);
        Check.due("index", 1, () -> x.index(0, 1));
        Check.due("index again", 0, () -> x.index(0, 1));
        Check.ahead(x, 0, 3, 7);
        Check.values(x, 1, 7);
        lookedAt(x, "the indexed column alone", 2, 3, 3);
        lookedAt(x, "the indexed column of two", 3, 1, 3);
        lookedAt(x, "a column without", 1, 2, 4);
        Check.due("the least index", 1, () -> x.index(0, 0));
        lookedAt(x, "the least of two indexes", 3, 1, 2);
        lookedAt(x, "the greater of two indexes", 2, 3, 3);
        Check.values(x, 9, 7);
        lookedAt(x, "none in the index", 3, 0, 0);
        Check.values(x, 64, 7);
        lookedAt(x, "none, though it may share a place", 1, 0, 0);
    }

    // "COLUMN k of TABLE t (it is none: IllegalArgumentException"; "Answers 1, 0 if it had."
    private static void indexOfEachColumn() {
        FactKeeper x = new FactKeeper();
        for (int columns = 1; columns <= 4; columns++) {
            int t = x.table(columns);
            for (int k : new int[] {-1, columns, 4, 5, Integer.MIN_VALUE, Integer.MAX_VALUE}) {
                Check.thrown("index " + k + " of " + columns, IllegalArgumentException.class, () -> x.index(t, k));
            }
            for (int k = columns - 1; k >= 0; k--) {
                int column = k;
                Check.due("index " + k + " of " + columns, 1, () -> x.index(t, column));
                Check.due("index again", 0, () -> x.index(t, column));
            }
        }
        Check.thrown("behind the last table", NoSuchElementException.class, () -> x.index(4, 0));
    }

    // "has an INDEX from now on": over the facts that were, those that come, and behind a purge
    private static void indexFromNowOn() {
        FactKeeper x = new FactKeeper();
        x.table(1);
        Check.behind(x, 0, 1);
        Check.behind(x, 0, 2);
        Check.ahead(x, 0, 1);
        Check.values(x, 1);
        lookedAt(x, "before", 1, 2, 3);
        x.remove(0, 1, 0);
        x.index(0, 0);
        lookedAt(x, "one that went is in it", 1, 1, 2);
        Check.ahead(x, 0, 1);
        Check.behind(x, 0, 1);
        lookedAt(x, "those that came since, too", 1, 3, 4);
        x.purge(-1);
        lookedAt(x, "one that is not kept is not", 1, 3, 3);
        Check.due("the first", 3, () -> x.find(0, 1, -1));
        Check.values(x, 2);
        lookedAt(x, "the other", 1, 1, 1);
    }

    private static void lookedAt(FactKeeper x, String why, int mask, int many, int lookedAt) {
        Check.due(why, many, () -> x.many(0, mask, -1));
        Check.due(why + ", looked at", lookedAt, () -> x.count(5));
    }

    private static void key() {
        FactKeeper x = new FactKeeper();
        x.table(3);
        Check.thrown("key of no table", NoSuchElementException.class, () -> x.key(1, 99));
        Check.thrown("key of no columns", IllegalArgumentException.class, () -> x.key(0, 0));
        Check.thrown("key of a column too much", IllegalArgumentException.class, () -> x.key(0, 8));
        Check.thrown("key -1", IllegalArgumentException.class, () -> x.key(0, -1));
        Check.thrown("key 16", IllegalArgumentException.class, () -> x.key(0, 16));
        Check.behind(x, 0, 1, 1, 1);
        Check.behind(x, 0, 1, 2, 1);
        Check.thrown("two have the same", IllegalStateException.class, () -> x.key(0, 5));
        Check.due("key", 1, () -> x.key(0, 7));
        Check.due("key again", 0, () -> x.key(0, 7));
        Check.due("2nd key", 1, () -> x.key(0, 2));
        Check.due("3rd key", 1, () -> x.key(0, 6));
        Check.thrown("two before the 4th", IllegalStateException.class, () -> x.key(0, 1));
        Check.thrown("4th key", IndexOutOfBoundsException.class, () -> x.key(0, 3));
        Check.due("one of three", 0, () -> x.key(0, 6));
        Check.values(x, 5, 2, 9);
        Check.thrown("the 2nd key holds", UnsupportedOperationException.class, () -> x.add(0, 0));
        Check.due("nothing came", 2, () -> x.count(2));
        x.remove(0, 2, 0);
        Check.due("one that went is not asked", 2, () -> x.add(0, 0));
        FactKeeper y = new FactKeeper();
        y.table(1);
        Check.behind(y, 0, 4);
        Check.behind(y, 0, 4);
        y.remove(0, 0, 0);
        Check.due("those that went are not asked", 1, () -> y.key(0, 1));
    }

    // "mask 1 .. 15 of COLUMNS of TABLE t alone (else IllegalArgumentException, behind NoSuchElementException)"
    private static void keyMasks() {
        for (int columns = 1; columns <= 4; columns++) {
            for (int mask = -1; mask <= 17; mask++) {
                FactKeeper x = new FactKeeper();
                int t = x.table(columns);
                int asked = mask;
                String said = "key " + mask + " of " + columns;
                if (mask >= 1 && mask < 1 << columns) {
                    Check.due(said, 1, () -> x.key(t, asked));
                    Check.due(said + " again", 0, () -> x.key(t, asked));
                } else {
                    Check.thrown(said, IllegalArgumentException.class, () -> x.key(t, asked));
                }
            }
        }
        FactKeeper x = new FactKeeper();
        x.table(4);
        Check.thrown("the least", IllegalArgumentException.class, () -> x.key(0, Integer.MIN_VALUE));
        Check.thrown("the most", IllegalArgumentException.class, () -> x.key(0, Integer.MAX_VALUE));
    }

    // "a 4th KEY of the TABLE: IndexOutOfBoundsException"
    private static void threeKeysOfEachTable() {
        FactKeeper x = new FactKeeper();
        for (int t = 0; t < 3; t++) {
            x.table(3);
            int table = t;
            for (int mask = 1; mask <= 3; mask++) {
                int asked = mask;
                Check.due("key " + mask + " of table " + t, 1, () -> x.key(table, asked));
            }
            for (int mask = 4; mask <= 7; mask++) {
                int asked = mask;
                Check.thrown("4th", IndexOutOfBoundsException.class, () -> x.key(table, asked));
            }
            Check.thrown("no column before the 4th", IllegalArgumentException.class, () -> x.key(table, 8));
            for (int mask = 1; mask <= 3; mask++) {
                int asked = mask;
                Check.due("it was one", 0, () -> x.key(table, asked));
            }
        }
        Check.behind(x, 0, 1, 1, 1);
        Check.due("no key of another table", 1, () -> x.add(1, 0));
        Check.values(x, 2, 2, 1);
        Check.due("a 4th that was refused is none", 2, () -> x.add(0, 0));
    }

    // "no two FACTS that are there have the same in all of them. Two have: IllegalStateException"
    private static void keyOfTwoThatHaveTheSame() {
        FactKeeper x = new FactKeeper();
        x.table(2);
        x.table(2);
        Check.behind(x, 0, 1, 1);
        Check.behind(x, 0, 2, 2);
        Check.behind(x, 0, 1, 3);
        Check.behind(x, 1, 2, 3);
        Check.thrown("the first and the last", IllegalStateException.class, () -> x.key(0, 1));
        Check.due("not in the other column", 1, () -> x.key(0, 2));
        Check.due("not in both", 1, () -> x.key(0, 3));
        Check.thrown("a refused key is none", IllegalStateException.class, () -> x.key(0, 1));
        Check.behind(x, 0, 1, 4);
        Check.values(x, 1, 1);
        x.remove(0, 3, 0);
        Check.thrown("two of three", IllegalStateException.class, () -> x.key(0, 1));
        Check.values(x, 1, 3);
        x.remove(0, 3, 0);
        Check.due("one is left", 1, () -> x.key(0, 1));
        Check.values(x, 1, 9);
        Check.thrown("the one that is left", UnsupportedOperationException.class, () -> x.add(0, 0));
        FactKeeper y = new FactKeeper();
        y.table(1);
        Check.due("of an empty table", 1, () -> y.key(0, 1));
    }

    private static void keyAfterBack() {
        FactKeeper x = new FactKeeper();
        x.table(1);
        Check.behind(x, 0, 4);
        Check.behind(x, 0, 4);
        x.mark();
        x.remove(0, 1, 0);
        x.key(0, 1);
        Check.due("back asks no key", 1, () -> x.back(true));
        Check.due("two are there", 2, () -> x.count(10));
        Check.thrown("two have the same, key or not", IllegalStateException.class, () -> x.key(0, 1));
    }
}
