import java.util.List;
import java.util.NoSuchElementException;

/** "At most 3000 FACTS are kept over all, those that went, too; one too much: IllegalStateException (full)." */
public final class FullTest {
    public static void main(String[] args) {
        addUpTo3000();
        overAllTables();
        keyBeforeFull();
        backToTheBrim();
        backOverTheBrim();
        backNeedsRoomForWhatGoesAgain();
        backNeedsNoRoomForWhatCame();
        backNeedsRoomSinceTheLatestMarkAlone();
        backNotTakenNeedsNoRoom();
        changesOfManyMarks();
        theLastChangeThatCanBeTurned();
        purgeMakesRoom();
        lookingThrough3000();
        manyFound();
        Check.finish("FullTest");
    }

    /** A keeper with 100 facts that are there in table 0, of one column, and 100 that went for each round. */
    private static FactKeeper filled(int rounds) {
        FactKeeper x = new FactKeeper();
        x.table(1);
        addTo(x, 0, 100);
        turnAll(x, rounds);
        return x;
    }

    private static void addTo(FactKeeper x, int t, int many) {
        for (int i = 0; i < many; i++) {
            x.add(t, 0);
        }
    }

    private static void turnAll(FactKeeper x, int rounds) {
        for (int i = 0; i < rounds; i++) {
            x.mark();
            x.remove(0, 0, 1);
            x.back(true);
        }
    }

    private static void addUpTo3000() {
        FactKeeper x = filled(28);
        addTo(x, 0, 99);
        Check.due("kept before", 2999, () -> x.count(3));
        Check.due("the 3000th", 2999, () -> x.add(0, 1));
        Check.thrown("one too much", IllegalStateException.class, () -> x.add(0, 0));
        Check.thrown("one too much, ahead", IllegalStateException.class, () -> x.add(0, 1));
        Check.due("kept", 3000, () -> x.count(3));
        Check.due("there", 200, () -> x.count(10));
        x.remove(0, 0, 1);
        Check.thrown("those that went are kept, too", IllegalStateException.class, () -> x.add(0, 0));
    }

    private static void overAllTables() {
        FactKeeper x = filled(28);
        x.table(4);
        x.table(2);
        addTo(x, 1, 60);
        addTo(x, 2, 40);
        for (int t = 0; t < 3; t++) {
            int table = t;
            Check.thrown("full in table " + t, IllegalStateException.class, () -> x.add(table, 0));
        }
        Check.due("the last", 2, () -> x.fact(2999, 4));
        Check.due("in its row", 39, () -> x.fact(2999, 7));
    }

    // "one that is there has the same in a KEY: UnsupportedOperationException; then full"
    private static void keyBeforeFull() {
        FactKeeper x = filled(28);
        x.table(1);
        x.key(1, 1);
        for (int i = 0; i < 100; i++) {
            Check.behind(x, 1, i);
        }
        Check.values(x, 99);
        Check.thrown("a key, then full", UnsupportedOperationException.class, () -> x.add(1, 0));
        Check.values(x, 100);
        Check.thrown("full alone", IllegalStateException.class, () -> x.add(1, 0));
    }

    // "more FACTS than there is room for would come: full"
    private static void backToTheBrim() {
        FactKeeper x = filled(28);
        x.mark();
        x.remove(0, 0, 1);
        Check.due("room for each", 100, () -> x.back(true));
        Check.due("kept", 3000, () -> x.count(3));
        Check.due("there", 100, () -> x.count(10));
    }

    private static FactKeeper overTheBrim() {
        FactKeeper x = filled(28);
        x.add(0, 0);
        x.mark();
        x.mark();
        x.add(0, 1);
        x.value(0, 5);
        x.add(0, 0);
        x.value(0, 0);
        x.remove(0, 1, 1);
        x.open(0, 0, 99);
        x.next(0);
        return x;
    }

    private static void backOverTheBrim() {
        FactKeeper x = overTheBrim();
        Check.due("kept", 2903, () -> x.count(3));
        Check.thrown("102 would come", IllegalStateException.class, () -> x.back(true));
        Check.due("the mark is there yet", 2, () -> x.count(8));
        Check.due("nothing came", 2903, () -> x.count(3));
        List<String> want = Portrait.of(overTheBrim());
        List<String> got = Portrait.of(x);
        for (int i = 0; i < want.size(); i++) {
            Check.note("behind a refused back", want.get(i), got.get(i));
        }
        FactKeeper y = filled(28);
        Check.behind(y, 0, 7);
        y.mark();
        Check.values(y, 0);
        y.remove(0, 1, 1);
        Check.thrown("100 would come, room for 99", IllegalStateException.class, () -> y.back(true));
    }

    private static void backNeedsRoomForWhatGoesAgain() {
        FactKeeper x = filled(28);
        addTo(x, 0, 98);
        x.mark();
        x.value(0, 7);
        x.add(0, 0);
        x.remove(0, 1, 0);
        Check.due("what stands for it comes and goes", 2, () -> x.back(true));
        Check.due("kept", 3000, () -> x.count(3));
        FactKeeper y = filled(28);
        addTo(y, 0, 99);
        y.mark();
        y.value(0, 7);
        y.add(0, 0);
        y.remove(0, 1, 0);
        Check.thrown("no room for what stands for it", IllegalStateException.class, () -> y.back(true));
    }

    private static void backNeedsNoRoomForWhatCame() {
        FactKeeper x = filled(28);
        x.mark();
        x.value(0, 7);
        addTo(x, 0, 50);
        x.value(0, 0);
        for (int i = 0; i < 50; i++) {
            x.remove(0, 1, 0);
        }
        Check.due("50 come, 50 go", 100, () -> x.back(true));
        Check.due("kept", 3000, () -> x.count(3));
        Check.due("there", 100, () -> x.count(10));
        x.mark();
        Check.due("nothing to turn in a full keeper", 0, () -> x.back(true));
    }

    private static void backNeedsRoomSinceTheLatestMarkAlone() {
        FactKeeper x = filled(28);
        x.mark();
        x.value(0, 7);
        addTo(x, 0, 60);
        x.value(0, 0);
        x.remove(0, 1, 1);
        x.mark();
        x.value(0, 7);
        for (int i = 0; i < 40; i++) {
            x.remove(0, 1, 0);
        }
        Check.due("40 come", 40, () -> x.back(true));
        Check.due("kept", 3000, () -> x.count(3));
        Check.due("there", 60, () -> x.count(10));
        Check.thrown("140 would come", IllegalStateException.class, () -> x.back(true));
    }

    private static void backNotTakenNeedsNoRoom() {
        FactKeeper x = filled(29);
        x.mark();
        x.remove(0, 0, 1);
        Check.thrown("no room", IllegalStateException.class, () -> x.back(true));
        Check.due("not taken back", 0, () -> x.back(false));
        Check.due("none is there", 0, () -> x.count(10));
    }

    /** "These are changes as well, for MARKS before, too": the first mark sees all of them. */
    private static void changesOfManyMarks() {
        FactKeeper x = new FactKeeper();
        x.table(1);
        x.mark();
        addTo(x, 0, 100);
        turnAll(x, 14);
        Check.due("kept", 1500, () -> x.count(3));
        Check.due("all are turned", 100 + 14 * 200, () -> x.back(true));
        Check.due("none is there", 0, () -> x.count(10));
        Check.due("kept then", 2900, () -> x.count(3));
        Check.due("time", 2 * (100 + 14 * 200), () -> x.count(2));
    }

    private static void theLastChangeThatCanBeTurned() {
        FactKeeper x = new FactKeeper();
        x.table(1);
        x.mark();
        addTo(x, 0, 100);
        turnAll(x, 28);
        addTo(x, 0, 99);
        x.remove(0, 0, 1);
        // 2999 came and went since the first mark; one more comes, and can yet be turned.
        x.mark();
        x.add(0, 0);
        Check.due("kept", 3000, () -> x.count(3));
        Check.due("the last is turned", 1, () -> x.back(true));
        Check.due("it went", 6000, () -> x.fact(2999, 6));
        Check.thrown("no room for the others", IllegalStateException.class, () -> x.back(true));
        Check.due("not taken back", 0, () -> x.back(false));
        Check.due("all go", 3000, () -> x.purge(-1));
        Check.due("numbers go on", 3000, () -> x.add(0, 0));
    }

    private static void purgeMakesRoom() {
        FactKeeper x = filled(29);
        Check.thrown("full", IllegalStateException.class, () -> x.add(0, 0));
        int time = x.count(2);
        Check.due("none died yet at 100", 0, () -> x.purge(100));
        Check.due("one died at 101", 1, () -> x.purge(101));
        Check.due("room for one", 3000, () -> x.add(0, 0));
        Check.thrown("full again", IllegalStateException.class, () -> x.add(0, 0));
        Check.due("all that went", 2899, () -> x.purge(-1));
        Check.due("those that are there", 101, () -> x.count(3));
        Check.due("horizon", time + 1, () -> x.count(4));
        turnAll(x, 28);
        Check.due("used again", 101 * 29, () -> x.count(3));
        addTo(x, 0, 71);
        Check.thrown("full once more", IllegalStateException.class, () -> x.add(0, 0));
        Check.due("the last number", 0, () -> x.fact(3000 + 28 * 101 + 71, 4));
        Check.thrown("no number behind it", NoSuchElementException.class, () -> x.fact(3000 + 28 * 101 + 72, 4));
    }

    private static void lookingThrough3000() {
        FactKeeper x = filled(29);
        Check.values(x, 1);
        Check.due("find without", -1, () -> x.find(0, 1, -1));
        Check.due("looked at all", 3000, () -> x.count(5));
        Check.due("many", 100, () -> x.many(0, 0, -1));
        Check.due("looked at all", 3000, () -> x.count(5));
        Check.solved(x, "t0(A)", 100, 3000);
        Check.solved(x, "!t0(1),!t0(2)", 1, 6000);
        x.index(0, 0);
        Check.solved(x, "!t0(1),!t0(2)", 1, 0);
        x.open(0, 0, 100);
        Check.due("the first of then", 0, () -> x.next(0));
        Check.due("behind it, over all that stood for it", 1, () -> x.next(0));
        Check.due("looked at those, too", 30, () -> x.count(5));
    }

    // "there is none: IndexOutOfBoundsException" behind many that are found
    private static void manyFound() {
        FactKeeper x = new FactKeeper();
        x.table(1);
        addTo(x, 0, 240);
        x.mark();
        x.remove(0, 0, 1);
        x.back(true);
        Check.due("changes", 480, () -> x.changes(0, 240, -1));
        Check.due("the first that came", 479, () -> x.found(0));
        Check.due("the last that came", 240, () -> x.found(239));
        Check.due("the first that went", -1, () -> x.found(240));
        Check.due("the last that went", -240, () -> x.found(479));
        Check.thrown("behind the last", IndexOutOfBoundsException.class, () -> x.found(480));
    }
}
