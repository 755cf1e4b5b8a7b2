import java.util.List;
import java.util.NoSuchElementException;

/**
 * "A call that throws changes nothing, but THE TAPE, PLACE.": every way in which a call can be refused, on a keeper
 * that has something of everything; behind it the keeper is compared with a twin that was not asked the refused call.
 */
public final class RefusedTest {
    interface Deed {
        void on(FactKeeper keeper);
    }

    interface Asked {
        int of(FactKeeper keeper);
    }

    private static final Class<IllegalArgumentException> RANGE = IllegalArgumentException.class;
    private static final Class<NoSuchElementException> ABSENT = NoSuchElementException.class;
    private static final Class<IllegalStateException> STATE = IllegalStateException.class;
    private static final Class<IndexOutOfBoundsException> BOUNDS = IndexOutOfBoundsException.class;
    private static final Class<UnsupportedOperationException> UNSUPPORTED = UnsupportedOperationException.class;
    private static final int[] FAR = {Integer.MIN_VALUE, Integer.MAX_VALUE};

    public static void main(String[] args) {
        portraitsTellKeepersApart();
        feedAndEnd();
        valueAndTable();
        indexAndKey();
        add();
        remove();
        looks();
        cursors();
        fact();
        marks();
        purge();
        changesAndFound();
        solutionAndCount();
        questionAtNoTime();
        questionThatIsBroken();
        questionThatLooksAtTooMany();
        Check.finish("RefusedTest");
    }

    /**
     * Tables 0 (an index, a key), 1 (three keys) and 2; facts that went and one that is not kept, two marks, two
     * cursors; the horizon is 5, the time 10.
     */
    private static FactKeeper scene() {
        FactKeeper x = new FactKeeper();
        x.table(2);
        x.table(3);
        x.table(1);
        x.index(0, 1);
        x.key(0, 1);
        Check.behind(x, 0, 1, 5);
        Check.behind(x, 0, 2, 5);
        Check.ahead(x, 0, 3, 6);
        Check.behind(x, 1, 1, 2, 3);
        x.key(1, 1);
        x.key(1, 2);
        x.key(1, 4);
        Check.values(x, 1);
        x.remove(0, 1, 0);
        x.purge(-1);
        Check.behind(x, 0, 4, 6);
        Check.behind(x, 0, 5, 6);
        x.mark();
        Check.values(x, 2);
        x.remove(0, 1, 0);
        x.mark();
        Check.behind(x, 1, 7, 8, 9);
        Check.values(x, 5, 6);
        x.open(0, 2, -1);
        x.next(0);
        x.open(0, 0, 5);
        x.remove(0, 1, 0);
        x.changes(0, 5, -1);
        Check.ask(x, "t0(A,B),D:A*B");
        Check.answer(() -> Check.ask(x, "t0(A,B),?"));
        x.many(1, 0, -1);
        Check.values(x, 7, 6, 5, 4);
        Check.write(x, "t0(A,B),A<B");
        return x;
    }

    private static FactKeeper sceneWith(Deed before) {
        FactKeeper x = scene();
        before.on(x);
        return x;
    }

    private static void refused(String call, Class<? extends RuntimeException> want, Asked asked) {
        refused(call, want, x -> { }, asked);
    }

    private static void refused(String call, Class<? extends RuntimeException> want, Deed before, Asked asked) {
        FactKeeper x = sceneWith(before);
        Check.thrown(call, want, () -> asked.of(x));
        compare(call, Portrait.of(sceneWith(before)), Portrait.of(x));
    }

    private static void compare(String call, List<String> want, List<String> got) {
        Check.note(call + ", lines", String.valueOf(want.size()), String.valueOf(got.size()));
        for (int i = 0; i < Math.min(want.size(), got.size()); i++) {
            Check.note("behind " + call, want.get(i), got.get(i));
        }
    }

    /** A portrait that saw nothing would prove nothing. */
    private static void portraitsTellKeepersApart() {
        Deed[] deeds = {
            x -> x.feed(0, 0, 0, 0, 0), x -> x.end(10), x -> x.value(3, 5), x -> x.table(1), x -> x.index(0, 0),
            x -> x.index(1, 2), x -> x.key(0, 3), x -> x.add(2, 0), x -> x.add(0, 1), x -> x.remove(0, 2, 0),
            x -> x.remove(1, 0, 1), x -> x.find(0, 0, -1), x -> x.open(0, 0, 5), x -> x.next(0), x -> x.next(1),
            x -> x.close(0), x -> x.close(1), x -> x.mark(), x -> x.back(true), x -> x.back(false),
            x -> x.changes(0, -1, 6), x -> x.question(-1),
        };
        List<String> plain = Portrait.of(scene());
        Check.note("the same scene", plain.toString(), Portrait.of(scene()).toString());
        for (int i = 0; i < deeds.length; i++) {
            boolean isSame = Portrait.of(sceneWith(deeds[i])).equals(plain);
            Check.note("deed " + i + " is seen", "false", String.valueOf(isSame));
        }
    }

    private static void feedAndEnd() {
        Deed fill = x -> {
            for (int i = 0; i < 19; i++) {
                x.feed(0x20202020, 0x20202020, 0x20202020, 0x20202020, 0x20202020);
            }
        };
        refused("feed to 411", BOUNDS, fill, x -> x.feed(1, 2, 3, 4, 5));
        refused("end(-1)", RANGE, x -> x.end(-1));
        refused("end(12)", RANGE, x -> x.end(12));
        for (int far : FAR) {
            refused("end " + far, RANGE, x -> x.end(far));
        }
    }

    private static void valueAndTable() {
        refused("value(-1)", RANGE, x -> x.value(-1, 9));
        refused("value(4)", RANGE, x -> x.value(4, 9));
        refused("table(0)", RANGE, x -> x.table(0));
        refused("table(5)", RANGE, x -> x.table(5));
        Deed fill = x -> {
            for (int t = 3; t < 12; t++) {
                x.table(1);
            }
        };
        refused("a 13th table", STATE, fill, x -> x.table(1));
        refused("a 13th table of 5", RANGE, fill, x -> x.table(5));
        for (int far : FAR) {
            refused("value " + far, RANGE, x -> x.value(far, 9));
            refused("table " + far, RANGE, x -> x.table(far));
        }
    }

    private static void indexAndKey() {
        refused("index of no table", ABSENT, x -> x.index(3, 0));
        refused("index of table -1", ABSENT, x -> x.index(-1, 0));
        refused("index of no column", RANGE, x -> x.index(0, 2));
        refused("index of column -1", RANGE, x -> x.index(0, -1));
        refused("key of no table", ABSENT, x -> x.key(3, 1));
        refused("key of nothing", RANGE, x -> x.key(0, 0));
        refused("key of no column", RANGE, x -> x.key(0, 4));
        refused("key of a column and none", RANGE, x -> x.key(0, 5));
        refused("key 16", RANGE, x -> x.key(0, 16));
        refused("key -1", RANGE, x -> x.key(0, -1));
        refused("two have the same", STATE, x -> x.key(0, 2));
        refused("a 4th key", BOUNDS, x -> x.key(1, 3));
    }

    private static void add() {
        refused("add ahead 2", RANGE, x -> x.add(0, 2));
        refused("add ahead -1", RANGE, x -> x.add(0, -1));
        refused("add to no table", ABSENT, x -> x.add(3, 0));
        refused("the same in the 1st key", UNSUPPORTED, x -> Check.values(x, 7, 0, 0), x -> x.add(1, 0));
        refused("the same in the 2nd key", UNSUPPORTED, x -> Check.values(x, 0, 8, 0), x -> x.add(1, 1));
        refused("the same in the 3rd key", UNSUPPORTED, x -> Check.values(x, 0, 0, 9), x -> x.add(1, 0));
    }

    private static void remove() {
        refused("remove, mask -1", RANGE, x -> x.remove(0, -1, 0));
        refused("remove, mask 16", RANGE, x -> x.remove(0, 16, 1));
        refused("remove, all 2", RANGE, x -> x.remove(0, 0, 2));
        refused("remove, all -1", RANGE, x -> x.remove(0, 0, -1));
        refused("remove from no table", ABSENT, x -> x.remove(3, 0, 1));
    }

    private static void looks() {
        int[][] wrong = {{0, -1, -1}, {0, 16, -1}, {0, 0, -2}, {0, 0, 4}, {0, 0, 11}, {0, 0, FAR[0]}, {0, 0, FAR[1]}};
        for (int[] some : wrong) {
            String said = "(" + some[0] + ", " + some[1] + ", " + some[2] + ")";
            refused("find" + said, RANGE, x -> x.find(some[0], some[1], some[2]));
            refused("many" + said, RANGE, x -> x.many(some[0], some[1], some[2]));
            refused("open" + said, RANGE, x -> x.open(some[0], some[1], some[2]));
        }
        refused("find in no table", ABSENT, x -> x.find(3, 0, -1));
        refused("many in no table", ABSENT, x -> x.many(3, 0, -1));
        refused("open of no table", ABSENT, x -> x.open(3, 0, -1));
    }

    private static void cursors() {
        Deed fill = x -> {
            for (int c = 2; c < 10; c++) {
                x.open(0, 0, -1);
            }
        };
        refused("an 11th cursor", STATE, fill, x -> x.open(0, 0, -1));
        for (int cursor : new int[] {-1, 10, FAR[0], FAR[1]}) {
            refused("next " + cursor, RANGE, x -> x.next(cursor));
            refused("close " + cursor, RANGE, x -> x.close(cursor));
        }
        for (int cursor : new int[] {2, 9}) {
            refused("next " + cursor, ABSENT, x -> x.next(cursor));
            refused("close " + cursor, ABSENT, x -> x.close(cursor));
        }
        refused("next of one that went", ABSENT, x -> x.close(0), x -> x.next(0));
    }

    private static void fact() {
        refused("what -1", RANGE, x -> x.fact(1, -1));
        refused("what 8", RANGE, x -> x.fact(1, 8));
        refused("a fact that is not kept", ABSENT, x -> x.fact(0, 0));
        refused("a fact that has yet to come", ABSENT, x -> x.fact(7, 0));
        refused("fact -1", ABSENT, x -> x.fact(-1, 0));
    }

    private static void marks() {
        Deed fill = x -> {
            for (int i = 2; i < 8; i++) {
                x.mark();
            }
        };
        refused("a 9th mark", STATE, fill, x -> x.mark());
        Deed drop = x -> {
            x.back(false);
            x.back(false);
        };
        refused("back without a mark", STATE, drop, x -> x.back(false));
        refused("taken back without a mark", STATE, drop, x -> x.back(true));
    }

    private static void purge() {
        Deed closeAll = x -> {
            x.close(0);
            x.close(1);
        };
        Deed dropAll = x -> {
            x.back(false);
            x.back(false);
        };
        refused("purge with cursors and marks", STATE, x -> x.purge(-1));
        refused("purge with marks", STATE, closeAll, x -> x.purge(-1));
        refused("purge with a mark", STATE, x -> {
            closeAll.on(x);
            x.back(false);
        }, x -> x.purge(-1));
        refused("purge with cursors", STATE, dropAll, x -> x.purge(-1));
        refused("purge with a cursor", STATE, x -> {
            dropAll.on(x);
            x.close(0);
        }, x -> x.purge(-1));
        for (int at : new int[] {-2, 4, 11, FAR[0], FAR[1]}) {
            refused("purge " + at, RANGE, x -> x.purge(at));
            refused("purge " + at + " without cursors and marks", RANGE, x -> {
                closeAll.on(x);
                dropAll.on(x);
            }, x -> x.purge(at));
        }
    }

    private static void changesAndFound() {
        refused("changes of no table", ABSENT, x -> x.changes(3, 5, 6));
        for (int at : new int[] {-2, 4, 11, FAR[0], FAR[1]}) {
            refused("changes from " + at, RANGE, x -> x.changes(0, at, 6));
            refused("changes to " + at, RANGE, x -> x.changes(0, 6, at));
        }
        int found = scene().changes(0, 5, -1);
        for (int i : new int[] {-1, found, FAR[0], FAR[1]}) {
            refused("found " + i, BOUNDS, x -> x.found(i));
        }
    }

    private static void solutionAndCount() {
        for (int k : new int[] {-1, 8, FAR[0], FAR[1]}) {
            refused("solution of variable " + k, RANGE, x -> x.solution(0, k));
        }
        for (int i : new int[] {-1, 2, 100, FAR[0], FAR[1]}) {
            refused("solution " + i, BOUNDS, x -> x.solution(i, 0));
        }
        refused("a variable that is not in it", BOUNDS, x -> x.solution(0, 2));
        for (int what : new int[] {-1, 22, FAR[0], FAR[1]}) {
            refused("count " + what, RANGE, x -> x.count(what));
        }
    }

    /** Of a question, the tape is emptied and these lines of the portrait are due as told. */
    private static void refusedQuestion(
            String call, Class<? extends RuntimeException> want, Deed before, int at, String... due) {
        FactKeeper x = sceneWith(before);
        Check.thrown(call, want, () -> x.question(at));
        FactKeeper twin = sceneWith(before);
        twin.end(0);
        List<String> lines = Portrait.of(twin);
        for (String line : due) {
            String start = line.substring(0, line.indexOf(' '));
            lines.replaceAll(old -> old.startsWith(start) ? line : old);
        }
        compare(call, lines, Portrait.of(x));
    }

    private static void questionAtNoTime() {
        for (int at : new int[] {-2, 4, 11, FAR[0], FAR[1]}) {
            refusedQuestion("question at " + at, RANGE, x -> { }, at, "count(6) -1");
            refusedQuestion("a broken question at " + at, RANGE, x -> x.end(10), at, "count(6) -1");
        }
    }

    private static void questionThatIsBroken() {
        refusedQuestion("no question", UNSUPPORTED, x -> x.end(0), -1, "count(6) 0");
        refusedQuestion("half a question", UNSUPPORTED, x -> x.end(10), -1, "count(6) 10");
        refusedQuestion("a goal too little", UNSUPPORTED, x -> x.end(8), 5, "count(6) 8");
        refusedQuestion("one with new variables", UNSUPPORTED, x -> Check.write(x, ",t0(C,E),t0(F,G)!"), -1,
                "count(6) 27");
    }

    private static void questionThatLooksAtTooMany() {
        Deed ask = x -> {
            for (int i = 0; i < 10; i++) {
                x.add(2, 0);
            }
            x.end(0);
            Check.write(x, "t2(A),t2(B),t2(C),t2(E),t2(F),t2(G)");
        };
        refusedQuestion("a million", ArithmeticException.class, ask, -1, "count(5) 50001", "count(6) -1");
    }
}
