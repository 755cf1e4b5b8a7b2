import java.util.NoSuchElementException;

/**
 * The sentences of "Terms" that name an edge, each with a test of its own; those of QUESTION are in QuestionEdgesTest,
 * "At most 3000 FACTS" in FullTest, "A call that throws changes nothing" in RefusedTest.
 */
public final class TermsTest {
    private static final int LEAST = Integer.MIN_VALUE;
    private static final int MOST = Integer.MAX_VALUE;

    public static void main(String[] args) {
        tapeHas400Bytes();
        tapeIsLeftEmptyByQuestionAlone();
        valuesAreInts();
        twelveTables();
        oneToFourColumns();
        numbersOverAllTables();
        timeIsOneMoreWithEachChange();
        isThereFromBornToBeforeDied();
        rowHasAheadAndBehind();
        fitsInEachColumnOfTheMask();
        masksOutOfRange();
        timesFromTheHorizonToNow();
        timesOutOfRange();
        lookedAtThroughTheRow();
        lookedAtThroughTheLeastIndex();
        lookedAtInEveryColumnOfFour();
        numbersBeforeWhatIsNotThere();
        whatIsNotThereBeforeColumns();
        Check.finish("TermsTest");
    }

    // "THE TAPE has at most 400 bytes"
    private static void tapeHas400Bytes() {
        FactKeeper x = new FactKeeper();
        for (int length = 20; length <= 400; length += 20) {
            int due = length;
            Check.due("feed to " + length, due, () -> x.feed(0, 0, 0, 0, 0));
        }
        for (int length : new int[] {400, 399, 381}) {
            x.end(length);
            Check.thrown("feed behind " + length, IndexOutOfBoundsException.class, () -> x.feed(1, 2, 3, 4, 5));
            Check.due("the tape stays at " + length, length, () -> x.count(0));
        }
        x.end(380);
        Check.due("feed behind 380", 400, () -> x.feed(1, 2, 3, 4, 5));
    }

    // "a call that reads it leaves it empty, also if it throws"
    private static void tapeIsLeftEmptyByQuestionAlone() {
        FactKeeper x = new FactKeeper();
        Check.due("a question", 1, () -> Check.ask(x, "1<2"));
        Check.due("leaves it empty", 0, () -> x.count(0));
        Check.thrown("a broken one", UnsupportedOperationException.class, () -> Check.ask(x, "1<2,"));
        Check.due("leaves it empty, too", 0, () -> x.count(0));
        Check.thrown("one at no time", IllegalArgumentException.class, () -> Check.ask(x, "1<2", 1));
        Check.due("leaves it empty, too", 0, () -> x.count(0));
        Check.write(x, "1<");
        everyOtherCall(x);
        Check.due("no other call reads it", 2, () -> x.count(0));
        Check.due("what it had is there yet", 1, () -> Check.ask(x, "3"));
    }

    private static void everyOtherCall(FactKeeper x) {
        x.table(2);
        x.index(0, 0);
        x.key(0, 3);
        x.mark();
        x.add(0, 0);
        x.open(0, 0, -1);
        x.next(0);
        x.close(0);
        x.find(0, 0, -1);
        x.many(0, 0, -1);
        x.fact(0, 7);
        x.remove(0, 0, 0);
        x.changes(0, 1, -1);
        x.found(0);
        x.back(false);
        x.purge(-1);
        x.value(0, 1);
    }

    // "VALUES 0 .. 3 are ints, 0 at first."
    private static void valuesAreInts() {
        FactKeeper x = new FactKeeper();
        x.table(4);
        int[] ints = {LEAST, MOST, -1, 1};
        for (int k = 0; k < 4; k++) {
            int at = k;
            Check.due("value " + k + " at first", 0, () -> x.value(at, ints[at]));
        }
        x.add(0, 0);
        for (int k = 0; k < 4; k++) {
            int at = k;
            Check.due("column " + k, ints[k], () -> x.fact(0, at));
            Check.due("value " + k, ints[k], () -> x.value(at, 0));
        }
        for (int k : new int[] {-1, 4, LEAST, MOST}) {
            Check.thrown("value " + k, IllegalArgumentException.class, () -> x.value(k, 9));
        }
    }

    // "TABLES 0 .. 11"
    private static void twelveTables() {
        FactKeeper x = new FactKeeper();
        for (int t = 0; t < 12; t++) {
            int number = t;
            Check.thrown("not there yet", NoSuchElementException.class, () -> x.find(number, 0, -1));
            Check.due("count before", -1, () -> x.count(10 + number));
            Check.due("table", number, () -> x.table(1));
            Check.due("there now", -1, () -> x.find(number, 0, -1));
            Check.due("count then", 0, () -> x.count(10 + number));
        }
        Check.thrown("a 13th", IllegalStateException.class, () -> x.table(1));
        for (int t : new int[] {-1, 12, LEAST, MOST}) {
            Check.thrown("table " + t, NoSuchElementException.class, () -> x.find(t, 0, -1));
        }
        Check.due("the last is used", 0, () -> Check.behind(x, 11, 5));
        Check.due("its fact", 11, () -> x.fact(0, 4));
    }

    // "each with 1 .. 4 COLUMNS"
    private static void oneToFourColumns() {
        FactKeeper x = new FactKeeper();
        for (int columns : new int[] {0, 5, -1, LEAST, MOST}) {
            Check.thrown("table of " + columns, IllegalArgumentException.class, () -> x.table(columns));
        }
        Check.values(x, 6, 7, 8, 9);
        for (int columns = 1; columns <= 4; columns++) {
            int t = columns - 1;
            int asked = columns;
            Check.due("table of " + columns, t, () -> x.table(asked));
            x.add(t, 0);
            for (int k = 0; k < 4; k++) {
                int at = k;
                Check.due("column " + k + " of " + columns, k < columns ? 6 + k : 0, () -> x.fact(t, at));
            }
        }
    }

    // "a NUMBER (0, 1, .. as they come, over all TABLES)"
    private static void numbersOverAllTables() {
        FactKeeper x = new FactKeeper();
        x.table(1);
        x.table(1);
        x.key(1, 1);
        Check.due("first", 0, () -> x.add(0, 0));
        Check.due("of the other table", 1, () -> x.add(1, 0));
        Check.due("ahead", 2, () -> x.add(0, 1));
        Check.thrown("refused", UnsupportedOperationException.class, () -> x.add(1, 0));
        Check.due("none is lost by a refused one", 3, () -> x.add(0, 0));
        x.mark();
        x.remove(0, 0, 1);
        Check.due("three came by back", 3, () -> x.back(true));
        Check.due("those have numbers, too", 7, () -> x.add(0, 0));
        Check.due("some are not kept any more", 3, () -> x.purge(-1));
        Check.due("no number comes again", 8, () -> x.add(0, 0));
        Check.thrown("a number behind the last", NoSuchElementException.class, () -> x.fact(9, 0));
        Check.thrown("a number before the first", NoSuchElementException.class, () -> x.fact(-1, 0));
        Check.thrown("the least int", NoSuchElementException.class, () -> x.fact(LEAST, 0));
        Check.thrown("the most int", NoSuchElementException.class, () -> x.fact(MOST, 0));
    }

    // "TIME is 0 at first, and 1 more with each change: a FACT comes (BORN is the TIME then), or goes (DIED likewise)."
    private static void timeIsOneMoreWithEachChange() {
        FactKeeper x = new FactKeeper();
        x.table(1);
        time(x, "at first", 0);
        x.add(0, 0);
        x.add(0, 1);
        x.add(0, 0);
        time(x, "three came", 3);
        Check.due("born", 2, () -> x.fact(1, 5));
        x.remove(0, 0, 0);
        time(x, "one went", 4);
        Check.due("died", 4, () -> x.fact(1, 6));
        x.remove(0, 0, 1);
        time(x, "two went", 6);
        Check.due("died next", 5, () -> x.fact(0, 6));
        Check.due("died last", 6, () -> x.fact(2, 6));
        Check.due("none to go", -1, () -> x.remove(0, 0, 0));
        Check.due("none at all", 0, () -> x.remove(0, 0, 1));
        time(x, "none went", 6);
        x.mark();
        x.add(0, 0);
        x.remove(0, 0, 0);
        x.back(true);
        time(x, "two changes, and two turned", 10);
        x.mark();
        x.back(false);
        x.find(0, 0, -1);
        x.purge(-1);
        x.index(0, 0);
        x.key(0, 1);
        x.table(1);
        time(x, "no change", 10);
    }

    private static void time(FactKeeper x, String why, int due) {
        Check.due("time, " + why, due, () -> x.count(2));
    }

    // "It IS THERE at T if BORN <= T, and it did not go, or T < DIED."
    private static void isThereFromBornToBeforeDied() {
        FactKeeper x = new FactKeeper();
        x.table(1);
        x.table(1);
        x.add(1, 0);
        x.add(0, 0);
        x.add(1, 0);
        x.remove(0, 0, 0);
        x.add(1, 0);
        // The fact of table 0 was born at 2 and died at 4.
        int[] there = {0, 0, 1, 1, 0, 0};
        for (int time = 0; time <= 5; time++) {
            int at = time;
            Check.due("find at " + at, there[at] == 1 ? 1 : -1, () -> x.find(0, 0, at));
            Check.due("many at " + at, there[at], () -> x.many(0, 0, at));
            Check.due("question at " + at, there[at], () -> Check.ask(x, "t0(A)", at));
            Check.due("none such at " + at, 1 - there[at], () -> Check.ask(x, "!t0(A)", at));
            x.open(0, 0, at);
            Check.due("next at " + at, there[at] == 1 ? 1 : -1, () -> x.next(0));
            x.close(0);
            Check.due("changes from " + at, there[at], () -> x.changes(0, at, 0));
            Check.due("changes to " + at, there[at], () -> x.changes(0, 0, at));
        }
    }

    // "its FACTS that are kept, those that came behind at the end, those that came ahead at the beginning"
    private static void rowHasAheadAndBehind() {
        FactKeeper x = new FactKeeper();
        x.table(1);
        int[] ahead = {1, 0, 0, 1, 1, 0};
        for (int way : ahead) {
            x.add(0, way);
        }
        int[] row = {4, 3, 0, 1, 2, 5};
        inRow(x, row);
        x.remove(0, 0, 0);
        x.remove(0, 0, 0);
        inRow(x, row);
        x.purge(7);
        inRow(x, new int[] {3, 0, 1, 2, 5});
        x.purge(-1);
        inRow(x, new int[] {0, 1, 2, 5});
        x.remove(0, 0, 1);
        x.purge(-1);
        x.add(0, 1);
        x.add(0, 0);
        x.add(0, 1);
        inRow(x, new int[] {8, 6, 7});
    }

    private static void inRow(FactKeeper x, int[] row) {
        for (int i = 0; i < row.length; i++) {
            int number = row[i];
            Check.due("ahead of " + number, i, () -> x.fact(number, 7));
        }
        Check.due("kept", row.length, () -> x.count(3));
    }

    // "if in each COLUMN k with bit k of the mask it has VALUE k (bits of COLUMNS that there are not do not matter"
    private static void fitsInEachColumnOfTheMask() {
        for (int columns = 1; columns <= 4; columns++) {
            FactKeeper x = new FactKeeper();
            x.table(columns);
            for (int same = 0; same < 16; same++) {
                Check.values(x, same & 1, same >> 1 & 1, same >> 2 & 1, same >> 3 & 1);
                x.add(0, 0);
            }
            Check.values(x, 1, 1, 1, 1);
            for (int mask = 0; mask <= 15; mask++) {
                int asked = mask;
                int bits = Integer.bitCount(mask & (1 << columns) - 1);
                int first = mask & (1 << columns) - 1;
                String said = "mask " + mask + " of " + columns;
                Check.due("many, " + said, 16 >> bits, () -> x.many(0, asked, -1));
                Check.due("find, " + said, first, () -> x.find(0, asked, -1));
            }
        }
    }

    // "mask 0 .. 15"
    private static void masksOutOfRange() {
        FactKeeper x = new FactKeeper();
        x.table(1);
        x.add(0, 0);
        for (int mask : new int[] {-1, 16, 17, LEAST, MOST}) {
            Check.thrown("find " + mask, IllegalArgumentException.class, () -> x.find(0, mask, -1));
            Check.thrown("many " + mask, IllegalArgumentException.class, () -> x.many(0, mask, -1));
            Check.thrown("open " + mask, IllegalArgumentException.class, () -> x.open(0, mask, -1));
            Check.thrown("remove " + mask, IllegalArgumentException.class, () -> x.remove(0, mask, 0));
            Check.thrown("remove all " + mask, IllegalArgumentException.class, () -> x.remove(0, mask, 1));
        }
        Check.due("open 0", 0, () -> x.open(0, 0, -1));
        Check.due("open 15", 1, () -> x.open(0, 15, -1));
        Check.due("next 0", 0, () -> x.next(0));
        Check.due("next 15", 0, () -> x.next(1));
        Check.due("remove 15", 0, () -> x.remove(0, 15, 0));
        x.add(0, 0);
        Check.due("remove all 15", 1, () -> x.remove(0, 15, 1));
        x.add(0, 0);
        Check.due("remove 0", 2, () -> x.remove(0, 0, 0));
    }

    /** Table 0 has facts born at 1, 2, 3, 5 and 6; one died at 4, and the horizon is 4. */
    private static FactKeeper withHorizon() {
        FactKeeper x = new FactKeeper();
        x.table(1);
        x.add(0, 0);
        x.add(0, 0);
        x.add(0, 0);
        x.remove(0, 0, 0);
        x.add(0, 0);
        x.add(0, 0);
        x.purge(4);
        return x;
    }

    // "T: -1 is the TIME now; else HORIZON .. TIME."
    private static void timesFromTheHorizonToNow() {
        FactKeeper x = withHorizon();
        Check.due("horizon", 4, () -> x.count(4));
        Check.due("time", 6, () -> x.count(2));
        int[][] many = {{4, 2}, {5, 3}, {6, 4}, {-1, 4}};
        for (int[] at : many) {
            Check.due("many at " + at[0], at[1], () -> x.many(0, 0, at[0]));
            Check.due("find at " + at[0], 1, () -> x.find(0, 0, at[0]));
            Check.due("question at " + at[0], at[1], () -> Check.ask(x, "t0(A)", at[0]));
            Check.due("changes since the horizon to " + at[0], at[1] - 2, () -> x.changes(0, 4, at[0]));
            Check.due("changes from " + at[0] + " to now", 4 - at[1], () -> x.changes(0, at[0], -1));
            Check.due("open at " + at[0], 0, () -> x.open(0, 0, at[0]));
            Check.due("next at " + at[0], 1, () -> x.next(0));
            x.close(0);
        }
        x.open(0, 0, -1);
        x.add(0, 0);
        for (int i = 0; i < 4; i++) {
            x.next(0);
        }
        Check.due("-1 was the time of open", -1, () -> x.next(0));
        x.close(0);
        Check.due("purge at the horizon", 0, () -> x.purge(4));
        Check.due("purge at the time", 0, () -> x.purge(7));
        Check.due("the horizon is the time", 7, () -> x.count(4));
        Check.due("now is all that is left", 5, () -> x.many(0, 0, 7));
    }

    private static void timesOutOfRange() {
        FactKeeper x = withHorizon();
        for (int at : new int[] {-2, 0, 3, 7, LEAST, MOST}) {
            Check.thrown("find at " + at, IllegalArgumentException.class, () -> x.find(0, 0, at));
            Check.thrown("many at " + at, IllegalArgumentException.class, () -> x.many(0, 0, at));
            Check.thrown("open at " + at, IllegalArgumentException.class, () -> x.open(0, 0, at));
            Check.thrown("purge at " + at, IllegalArgumentException.class, () -> x.purge(at));
            Check.thrown("changes from " + at, IllegalArgumentException.class, () -> x.changes(0, at, 5));
            Check.thrown("changes to " + at, IllegalArgumentException.class, () -> x.changes(0, 5, at));
            Check.thrown("question at " + at, IllegalArgumentException.class, () -> Check.ask(x, "t0(A)", at));
        }
    }

    // "goes through the ROW from its beginning; .. each FACT that one comes to is LOOKED AT once,
    // whether it IS THERE and FITS or not"
    private static void lookedAtThroughTheRow() {
        FactKeeper x = new FactKeeper();
        x.table(2);
        Check.due("an empty row", -1, () -> x.find(0, 0, -1));
        lookedAt(x, "none of an empty row", 0);
        for (int i = 0; i < 6; i++) {
            Check.behind(x, 0, i, i % 2);
        }
        Check.values(x, 4, 0);
        Check.due("find", 4, () -> x.find(0, 1, -1));
        lookedAt(x, "find, up to it", 5);
        Check.due("find the first", 0, () -> x.find(0, 0, -1));
        lookedAt(x, "find the first", 1);
        Check.due("remove", 4, () -> x.remove(0, 1, 0));
        lookedAt(x, "remove, up to it", 5);
        Check.due("find what went", -1, () -> x.find(0, 1, -1));
        lookedAt(x, "find without", 6);
        Check.due("many", 2, () -> x.many(0, 2, -1));
        lookedAt(x, "many", 6);
        Check.due("many at 0", 0, () -> x.many(0, 0, 0));
        lookedAt(x, "many at 0", 6);
        Check.due("a column that is not there", 5, () -> x.many(0, 12, -1));
        lookedAt(x, "as without a mask", 6);
        x.open(0, 2, -1);
        Check.due("next", 0, () -> x.next(0));
        lookedAt(x, "next, the first", 1);
        Check.due("next", 2, () -> x.next(0));
        lookedAt(x, "next, from behind the one told last", 2);
        Check.due("next", -1, () -> x.next(0));
        lookedAt(x, "next, to the end", 3);
        Check.due("next", -1, () -> x.next(0));
        lookedAt(x, "next, behind the end", 0);
        Check.due("remove all", 2, () -> x.remove(0, 2, 1));
        lookedAt(x, "remove all", 6);
    }

    private static void lookedAt(FactKeeper x, String why, int due) {
        Check.due("looked at: " + why, due, () -> x.count(5));
    }

    // "if a COLUMN of the mask has an INDEX, through those of the ROW alone that have VALUE k in the least such COLUMN"
    private static void lookedAtThroughTheLeastIndex() {
        FactKeeper x = new FactKeeper();
        x.table(3);
        x.index(0, 2);
        x.index(0, 1);
        // Column 1 has 7 in four facts, column 2 has 9 in three.
        int[][] facts = {{0, 7, 9}, {1, 7, 0}, {2, 0, 9}, {3, 7, 9}, {4, 0, 0}, {5, 7, 0}};
        for (int[] fact : facts) {
            Check.behind(x, 0, fact);
        }
        Check.values(x, 3, 7, 9);
        int[] due = {6, 6, 4, 4, 3, 3, 4, 4, 6, 6, 4, 4, 3, 3, 4, 4};
        for (int mask = 0; mask <= 15; mask++) {
            int asked = mask;
            x.many(0, asked, -1);
            lookedAt(x, "many by mask " + mask, due[mask]);
        }
        Check.due("find by both", 0, () -> x.find(0, 6, -1));
        lookedAt(x, "find by both", 1);
        Check.due("find by all", 3, () -> x.find(0, 7, -1));
        lookedAt(x, "find by all", 3);
        x.open(0, 6, -1);
        x.next(0);
        Check.due("next by both", 3, () -> x.next(0));
        lookedAt(x, "next by both", 2);
        Check.due("next by both", -1, () -> x.next(0));
        lookedAt(x, "next to the end", 1);
        Check.due("remove by both", 2, () -> x.remove(0, 6, 1));
        lookedAt(x, "remove by both", 4);
        Check.due("those that went are looked at", 0, () -> x.many(0, 6, -1));
        lookedAt(x, "those that went", 4);
        Check.values(x, 3, 8, 9);
        Check.due("none has it", -1, () -> x.find(0, 6, -1));
        lookedAt(x, "none has it", 0);
    }

    private static void lookedAtInEveryColumnOfFour() {
        for (int k = 0; k < 4; k++) {
            int column = k;
            FactKeeper x = new FactKeeper();
            x.table(4);
            Check.due("index " + k, 1, () -> x.index(0, column));
            for (int some : new int[] {LEAST, MOST, -1, 0, 63, 64, -64, LEAST}) {
                x.value(column, some);
                x.add(0, some == MOST ? 1 : 0);
            }
            x.value(column, LEAST);
            Check.due("many by column " + k, 2, () -> x.many(0, 1 << column, -1));
            lookedAt(x, "by column " + k, 2);
            Check.due("the row is whole", 8, () -> x.many(0, 15 ^ 1 << column, -1));
            lookedAt(x, "by the other columns", 8);
            Check.due("the first of the row", 1, () -> x.find(0, 0, -1));
            x.value(column, 64);
            Check.due("one alone", 5, () -> x.find(0, 15, -1));
            lookedAt(x, "one alone", 1);
        }
    }

    // "What is thrown, in this order: IllegalArgumentException: a number out of range; NoSuchElementException"
    private static void numbersBeforeWhatIsNotThere() {
        FactKeeper x = new FactKeeper();
        Class<IllegalArgumentException> first = IllegalArgumentException.class;
        for (int t : new int[] {0, -1, 12}) {
            Check.thrown("add", first, () -> x.add(t, 2));
            Check.thrown("remove, mask", first, () -> x.remove(t, 16, 0));
            Check.thrown("remove, all", first, () -> x.remove(t, 0, 2));
            Check.thrown("find, mask", first, () -> x.find(t, 16, -1));
            Check.thrown("find, time", first, () -> x.find(t, 0, 1));
            Check.thrown("many, mask", first, () -> x.many(t, -1, -1));
            Check.thrown("many, time", first, () -> x.many(t, 0, -2));
            Check.thrown("open, mask", first, () -> x.open(t, 16, -1));
            Check.thrown("open, time", first, () -> x.open(t, 0, 1));
            Check.thrown("changes, first", first, () -> x.changes(t, 1, 0));
            Check.thrown("changes, second", first, () -> x.changes(t, 0, 1));
            Check.thrown("fact, what", first, () -> x.fact(t, 8));
        }
        Class<NoSuchElementException> then = NoSuchElementException.class;
        Check.thrown("add", then, () -> x.add(0, 1));
        Check.thrown("remove", then, () -> x.remove(0, 15, 1));
        Check.thrown("find", then, () -> x.find(0, 15, 0));
        Check.thrown("many", then, () -> x.many(0, 15, 0));
        Check.thrown("open", then, () -> x.open(0, 15, 0));
        Check.thrown("changes", then, () -> x.changes(0, 0, -1));
        Check.thrown("fact", then, () -> x.fact(0, 7));
        Check.thrown("next", then, () -> x.next(0));
        Check.thrown("close", then, () -> x.close(9));
    }

    // "(it is none: IllegalArgumentException, behind NoSuchElementException)"
    private static void whatIsNotThereBeforeColumns() {
        FactKeeper x = new FactKeeper();
        for (int t : new int[] {-1, 0, 11, 12, LEAST, MOST}) {
            for (int wrong : new int[] {-1, 0, 4, 16, LEAST, MOST}) {
                Check.thrown("index " + t, NoSuchElementException.class, () -> x.index(t, wrong));
                Check.thrown("key " + t, NoSuchElementException.class, () -> x.key(t, wrong));
            }
        }
    }
}
