import java.util.NoSuchElementException;

/** Promises 8 to 15: add, remove, find, many, open, next, close, fact. */
public final class FactsTest {
    public static void main(String[] args) {
        add();
        addWithKeys();
        addFull();
        remove();
        removeWithout();
        removeInTheRowsOrder();
        findAndMany();
        wrongLooks();
        cursors();
        cursorsKeepTheirValuesAndTime();
        theLeastFreeCursor();
        closeTellsHowMany();
        cursorsAndIndexes();
        wrongCursors();
        fact();
        Check.finish("FactsTest");
    }

    private static void add() {
        FactKeeper x = new FactKeeper();
        x.table(2);
        x.table(4);
        Check.due("add", 0, () -> Check.behind(x, 0, 1, 2, 3, 4));
        Check.due("add to another", 1, () -> Check.behind(x, 1, 5, 6, 7, 8));
        Check.due("add ahead", 2, () -> Check.ahead(x, 0, 9, 9));
        Check.due("time", 3, () -> x.count(2));
        Check.due("it is ahead", 2, () -> x.find(0, 0, -1));
        Check.due("the other is behind", 1, () -> x.fact(0, 7));
        Check.thrown("ahead 2", IllegalArgumentException.class, () -> x.add(0, 2));
        Check.thrown("ahead -1", IllegalArgumentException.class, () -> x.add(0, -1));
        Check.thrown("ahead before no table", IllegalArgumentException.class, () -> x.add(7, 2));
        Check.thrown("no table", NoSuchElementException.class, () -> x.add(2, 0));
        Check.thrown("no table -1", NoSuchElementException.class, () -> x.add(-1, 0));
        Check.thrown("no table 12", NoSuchElementException.class, () -> x.add(12, 0));
        x.key(0, 1);
        Check.values(x, 9, 1);
        Check.thrown("the same in a key", UnsupportedOperationException.class, () -> x.add(0, 1));
        Check.due("a thrown add changes nothing", 3, () -> x.count(3));
        Check.due("the next number", 3, () -> Check.behind(x, 0, 8, 1));
    }

    // "one that is there has the same in a KEY: UnsupportedOperationException"
    private static void addWithKeys() {
        FactKeeper x = new FactKeeper();
        x.table(3);
        x.key(0, 3);
        x.key(0, 4);
        Check.due("the first", 0, () -> Check.behind(x, 0, 1, 1, 1));
        Check.due("the same in one column of two", 1, () -> Check.behind(x, 0, 1, 2, 2));
        Check.due("the same in the other", 2, () -> Check.ahead(x, 0, 2, 1, 3));
        Check.values(x, 1, 1, 9);
        Check.thrown("the same in both", UnsupportedOperationException.class, () -> x.add(0, 0));
        Check.thrown("ahead, too", UnsupportedOperationException.class, () -> x.add(0, 1));
        Check.values(x, 9, 9, 3);
        Check.thrown("the same in the 2nd key", UnsupportedOperationException.class, () -> x.add(0, 0));
        x.remove(0, 4, 0);
        Check.due("it went", 3, () -> x.add(0, 0));
        Check.thrown("it is there again", UnsupportedOperationException.class, () -> x.add(0, 0));
        for (int ahead : new int[] {-1, 2, Integer.MIN_VALUE, Integer.MAX_VALUE}) {
            Check.thrown("ahead " + ahead, IllegalArgumentException.class, () -> x.add(0, ahead));
        }
        Check.thrown("no table before a key", NoSuchElementException.class, () -> x.add(1, 0));
    }

    /** 3000 facts by going back again and again, which takes fewer calls than adding each. */
    private static void addFull() {
        FactKeeper x = new FactKeeper();
        x.table(1);
        x.key(0, 1);
        for (int i = 0; i < 100; i++) {
            Check.behind(x, 0, i);
        }
        for (int i = 0; i < 29; i++) {
            x.mark();
            x.remove(0, 0, 1);
            x.back(true);
        }
        Check.due("kept", 3000, () -> x.count(3));
        Check.due("there", 100, () -> x.count(10));
        Check.values(x, 100);
        Check.thrown("full", IllegalStateException.class, () -> x.add(0, 0));
        Check.values(x, 99);
        Check.thrown("a key before full", UnsupportedOperationException.class, () -> x.add(0, 0));
        Check.thrown("no table before full", NoSuchElementException.class, () -> x.add(1, 0));
        x.mark();
        x.remove(0, 1, 0);
        int time = x.count(2);
        Check.thrown("no room to go back", IllegalStateException.class, () -> x.back(true));
        Check.due("the mark stays", 1, () -> x.count(8));
        Check.due("the time stays", time, () -> x.count(2));
        Check.due("not taken back", 0, () -> x.back(false));
        Check.due("purge one", 29 * 100, () -> x.purge(time - 1));
        Check.due("room again", 3000, () -> Check.behind(x, 0, 100));
        Check.due("purge the last", 1, () -> x.purge(-1));
        Check.due("all that are there", 100, () -> x.count(3));
        Check.due("in the row's order", 99, () -> x.fact(3000, 7));
    }

    private static void remove() {
        FactKeeper x = new FactKeeper();
        x.table(2);
        for (int i = 0; i < 6; i++) {
            Check.behind(x, 0, i % 2, i);
        }
        Check.values(x, 1, 3);
        Check.due("the first", 1, () -> x.remove(0, 1, 0));
        Check.due("looked at", 2, () -> x.count(5));
        Check.due("not the one that went", 3, () -> x.remove(0, 1, 0));
        Check.due("looked at those that went, too", 4, () -> x.count(5));
        Check.due("without", -1, () -> x.remove(0, 3, 0));
        Check.due("looked at all", 6, () -> x.count(5));
        Check.due("time", 8, () -> x.count(2));
        Check.due("all", 4, () -> x.remove(0, 0, 1));
        Check.due("looked at all again", 6, () -> x.count(5));
        Check.due("each at its time", 9, () -> x.fact(0, 6));
        Check.due("in the row's order", 12, () -> x.fact(5, 6));
        Check.due("none", 0, () -> x.remove(0, 0, 1));
        Check.due("kept", 6, () -> x.count(3));
        Check.thrown("all 2", IllegalArgumentException.class, () -> x.remove(0, 0, 2));
        Check.thrown("all -1", IllegalArgumentException.class, () -> x.remove(3, 0, -1));
        Check.thrown("mask 16", IllegalArgumentException.class, () -> x.remove(3, 16, 0));
        Check.thrown("mask -1", IllegalArgumentException.class, () -> x.remove(0, -1, 0));
        Check.thrown("no table", NoSuchElementException.class, () -> x.remove(1, 0, 0));
        Check.due("looked at stays", 6, () -> x.count(5));
    }

    // "-1 without"; "all such go, .. how many"
    private static void removeWithout() {
        FactKeeper x = new FactKeeper();
        x.table(2);
        Check.due("the first of none", -1, () -> x.remove(0, 0, 0));
        Check.due("all of none", 0, () -> x.remove(0, 0, 1));
        Check.behind(x, 0, 1, 1);
        Check.values(x, 2, 1);
        Check.due("none fits", -1, () -> x.remove(0, 1, 0));
        Check.due("none fits", 0, () -> x.remove(0, 1, 1));
        Check.due("time", 1, () -> x.count(2));
        Check.due("the only one", 0, () -> x.remove(0, 2, 0));
        Check.due("it went", -1, () -> x.remove(0, 2, 0));
        Check.due("none is there", 0, () -> x.remove(0, 0, 1));
        Check.due("time", 2, () -> x.count(2));
        for (int all : new int[] {-1, 2, Integer.MIN_VALUE, Integer.MAX_VALUE}) {
            Check.thrown("all " + all, IllegalArgumentException.class, () -> x.remove(0, 0, all));
        }
    }

    // "all 1: all such go, in the ROW'S order: how many"
    private static void removeInTheRowsOrder() {
        FactKeeper x = new FactKeeper();
        x.table(1);
        x.index(0, 0);
        Check.behind(x, 0, 1);
        Check.ahead(x, 0, 1);
        Check.ahead(x, 0, 2);
        Check.behind(x, 0, 1);
        Check.ahead(x, 0, 1);
        Check.values(x, 1);
        Check.due("the first of the row", 4, () -> x.remove(0, 1, 0));
        Check.due("the others", 3, () -> x.remove(0, 1, 1));
        int[] died = {8, 7, -1, 9, 6};
        for (int number = 0; number < 5; number++) {
            int asked = number;
            Check.due("died " + number, died[number], () -> x.fact(asked, 6));
        }
    }

    private static void findAndMany() {
        FactKeeper x = new FactKeeper();
        x.table(2);
        Check.due("none", -1, () -> x.find(0, 0, -1));
        Check.due("none", 0, () -> x.many(0, 0, 0));
        Check.behind(x, 0, 1, 1);
        Check.behind(x, 0, 2, 1);
        Check.ahead(x, 0, 2, 2);
        Check.values(x, 2, 1, 77, 88);
        x.remove(0, 3, 0);
        Check.due("find now", 2, () -> x.find(0, 1, -1));
        Check.due("looked at", 1, () -> x.count(5));
        Check.due("find before it went", 1, () -> x.find(0, 3, 3));
        Check.due("looked at", 3, () -> x.count(5));
        Check.due("it went", -1, () -> x.find(0, 3, 4));
        Check.due("columns that are not there", 0, () -> x.find(0, 14, -1));
        Check.due("many by them alone", 2, () -> x.many(0, 12, -1));
        Check.due("at its birth", 1, () -> x.find(0, 1, 2));
        Check.due("before its birth", -1, () -> x.find(0, 1, 1));
        Check.due("many at 3", 2, () -> x.many(0, 1, 3));
        Check.due("many looks at all", 3, () -> x.count(5));
        Check.due("many at 0", 0, () -> x.many(0, 0, 0));
    }

    private static void wrongLooks() {
        FactKeeper x = new FactKeeper();
        x.table(2);
        Check.behind(x, 0, 1, 1);
        int[][] wrong = {{0, 16, -1}, {0, -1, -1}, {0, 0, -2}, {0, 0, 2}, {9, 16, 0}, {9, 0, 2}, {-1, 0, -2}};
        for (int[] some : wrong) {
            String said = some[0] + ", " + some[1] + ", " + some[2];
            Check.thrown("find " + said, IllegalArgumentException.class, () -> x.find(some[0], some[1], some[2]));
            Check.thrown("many " + said, IllegalArgumentException.class, () -> x.many(some[0], some[1], some[2]));
            Check.thrown("open " + said, IllegalArgumentException.class, () -> x.open(some[0], some[1], some[2]));
        }
        for (int t : new int[] {-1, 1, 11, 12, Integer.MAX_VALUE}) {
            Check.thrown("find in " + t, NoSuchElementException.class, () -> x.find(t, 0, -1));
            Check.thrown("many in " + t, NoSuchElementException.class, () -> x.many(t, 15, 1));
            Check.thrown("open in " + t, NoSuchElementException.class, () -> x.open(t, 0, 0));
        }
        Check.due("no cursor came", 0, () -> x.count(7));
    }

    private static void cursors() {
        FactKeeper x = new FactKeeper();
        x.table(2);
        Check.behind(x, 0, 1, 0);
        Check.behind(x, 0, 1, 1);
        Check.behind(x, 0, 1, 2);
        Check.due("open", 0, () -> x.open(0, 1, -1));
        Check.values(x, 5, 5);
        Check.due("the first", 0, () -> x.next(0));
        Check.due("looked at", 1, () -> x.count(5));
        x.mark();
        x.remove(0, 0, 1);
        x.back(true);
        Check.behind(x, 0, 1, 3);
        Check.due("one that went later, over one that came later", 1, () -> x.next(0));
        Check.due("looked at the row as it is now", 2, () -> x.count(5));
        Check.due("the last", 2, () -> x.next(0));
        Check.due("none", -1, () -> x.next(0));
        Check.due("looked at the rest", 2, () -> x.count(5));
        Check.due("none from then on", -1, () -> x.next(0));
        Check.due("looked at nothing then", 0, () -> x.count(5));
        Check.due("the least free", 1, () -> x.open(0, 0, 2));
        Check.due("a second", 2, () -> x.open(0, 0, 0));
        Check.due("close", 3, () -> x.close(0));
        Check.due("close", 0, () -> x.close(1));
        Check.due("the least free again", 0, () -> x.open(0, 0, 1));
        Check.due("open ones", 2, () -> x.count(7));
        Check.due("there at 1", 0, () -> x.next(0));
        Check.due("no more at 1", -1, () -> x.next(0));
        Check.due("none at 0", -1, () -> x.next(2));
        Check.due("told one", 1, () -> x.close(0));
    }

    // "for FACTS that FIT with the VALUES as they are now and ARE THERE at T"; "in the ROW as it is now"
    private static void cursorsKeepTheirValuesAndTime() {
        FactKeeper x = new FactKeeper();
        x.table(2);
        Check.behind(x, 0, 1, 1);
        Check.behind(x, 0, 2, 1);
        Check.behind(x, 0, 1, 2);
        Check.values(x, 1, 1);
        x.open(0, 1, -1);
        x.open(0, 1, 2);
        x.open(0, 15, -1);
        x.open(0, 0, 0);
        Check.ahead(x, 0, 1, 1);
        Check.behind(x, 0, 1, 1);
        Check.values(x, 2, 2);
        x.remove(0, 0, 1);
        x.value(0, 9);
        nextOnes(x, 0, 0, 2, -1, -1);
        nextOnes(x, 1, 0, -1, -1);
        nextOnes(x, 2, 0, -1, -1);
        nextOnes(x, 3, -1, -1);
        Check.values(x, 1, 1);
        Check.due("a new one sees none now", 4, () -> x.open(0, 0, -1));
        nextOnes(x, 4, -1);
        Check.due("and those of then", 5, () -> x.open(0, 1, 5));
        nextOnes(x, 5, 3, 0, 2, 4, -1);
    }

    private static void nextOnes(FactKeeper x, int cursor, int... due) {
        for (int one : due) {
            Check.due("next(" + cursor + ")", one, () -> x.next(cursor));
        }
    }

    // "the least number 0 .. 9 that is free; none: IllegalStateException"
    private static void theLeastFreeCursor() {
        FactKeeper x = new FactKeeper();
        x.table(1);
        for (int i = 0; i < 10; i++) {
            int number = i;
            Check.thrown("not open yet", NoSuchElementException.class, () -> x.next(number));
            Check.due("open", number, () -> x.open(0, 0, -1));
            Check.due("cursors", number + 1, () -> x.count(7));
            Check.due("it is there", -1, () -> x.next(number));
        }
        Check.thrown("none is free", IllegalStateException.class, () -> x.open(0, 0, -1));
        for (int free : new int[] {9, 0, 5}) {
            x.close(free);
            Check.thrown("it went", NoSuchElementException.class, () -> x.close(free));
            Check.due("free again", free, () -> x.open(0, 0, -1));
        }
        x.close(7);
        x.close(2);
        x.close(4);
        Check.due("the least", 2, () -> x.open(0, 0, -1));
        Check.due("then the next", 4, () -> x.open(0, 0, -1));
        Check.due("then the last", 7, () -> x.open(0, 0, -1));
        Check.thrown("none is free again", IllegalStateException.class, () -> x.open(0, 0, -1));
        Check.due("cursors", 10, () -> x.count(7));
    }

    // "Answers how many FACTS it told."
    private static void closeTellsHowMany() {
        FactKeeper x = new FactKeeper();
        x.table(1);
        for (int i = 0; i < 3; i++) {
            x.add(0, 0);
        }
        for (int asked = 0; asked <= 5; asked++) {
            x.open(0, 0, -1);
            for (int i = 0; i < asked; i++) {
                x.next(0);
            }
            Check.due("told of " + asked, Math.min(asked, 3), () -> x.close(0));
        }
    }

    private static void cursorsAndIndexes() {
        FactKeeper x = new FactKeeper();
        x.table(2);
        for (int i = 0; i < 8; i++) {
            Check.behind(x, 0, i % 2, i);
        }
        Check.values(x, 1, 0);
        x.open(0, 1, -1);
        Check.due("without index", 1, () -> x.next(0));
        Check.due("looked at", 2, () -> x.count(5));
        x.index(0, 0);
        Check.due("an index that came since", 3, () -> x.next(0));
        Check.due("looked at", 1, () -> x.count(5));
        Check.behind(x, 0, 1, 8);
        x.next(0);
        x.next(0);
        Check.due("none", -1, () -> x.next(0));
        Check.due("looked at the one that came since", 1, () -> x.count(5));
    }

    private static void wrongCursors() {
        FactKeeper x = new FactKeeper();
        x.table(1);
        for (int cursor : new int[] {-1, 10, Integer.MIN_VALUE}) {
            Check.thrown("next " + cursor, IllegalArgumentException.class, () -> x.next(cursor));
            Check.thrown("close " + cursor, IllegalArgumentException.class, () -> x.close(cursor));
        }
        Check.thrown("next of none", NoSuchElementException.class, () -> x.next(9));
        Check.thrown("close of none", NoSuchElementException.class, () -> x.close(0));
        for (int i = 0; i < 10; i++) {
            int number = i;
            Check.due("open", number, () -> x.open(0, 0, -1));
        }
        Check.thrown("the 11th", IllegalStateException.class, () -> x.open(0, 0, -1));
        Check.thrown("no table before the 11th", NoSuchElementException.class, () -> x.open(1, 0, -1));
        Check.thrown("a mask before the 11th", IllegalArgumentException.class, () -> x.open(1, 16, -1));
        x.close(4);
        Check.thrown("closed", NoSuchElementException.class, () -> x.next(4));
        Check.due("free again", 4, () -> x.open(0, 0, -1));
    }

    private static void fact() {
        FactKeeper x = new FactKeeper();
        x.table(4);
        x.table(2);
        Check.behind(x, 1, 7, 8, 9, 10);
        Check.behind(x, 0, 1, 2, 3, 4);
        Check.ahead(x, 1, -7, -8, 0, 0);
        x.remove(1, 1, 0);
        int[] due = {7, 8, 0, 0, 1, 1, -1, 1};
        int[] gone = {-7, -8, 0, 0, 1, 3, 4, 0};
        int[] wide = {1, 2, 3, 4, 0, 2, -1, 0};
        for (int what = 0; what < 8; what++) {
            int asked = what;
            Check.due("fact 0, " + what, due[what], () -> x.fact(0, asked));
            Check.due("fact 1, " + what, wide[what], () -> x.fact(1, asked));
            Check.due("fact 2, " + what, gone[what], () -> x.fact(2, asked));
        }
        Check.thrown("what 8", IllegalArgumentException.class, () -> x.fact(0, 8));
        Check.thrown("what before no fact", IllegalArgumentException.class, () -> x.fact(9, -1));
        Check.thrown("no fact", NoSuchElementException.class, () -> x.fact(3, 0));
        Check.thrown("no fact -1", NoSuchElementException.class, () -> x.fact(-1, 0));
        x.purge(-1);
        Check.thrown("not kept", NoSuchElementException.class, () -> x.fact(2, 0));
        Check.due("ahead of it were one more", 0, () -> x.fact(0, 7));
    }
}
