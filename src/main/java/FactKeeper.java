import java.util.NoSuchElementException;

/** A keeper of facts with times; ../shared/DOC.md says what each call does. */
public final class FactKeeper {
    private static final int MOST_FACTS = 3000;
    private static final int MOST_TABLES = 12;
    private static final int MOST_COLUMNS = 4;
    private static final int MOST_KEYS = 3;
    private static final int MOST_CURSORS = 10;
    private static final int MOST_MARKS = 8;
    private static final int MOST_BYTES = 400;
    private static final int MOST_GOALS = 10;
    private static final int MOST_DIGITS = 9;
    private static final int MOST_VARIABLES = 8;
    private static final int MOST_SOLUTIONS = 100;
    private static final int MOST_LOOKED_AT = 50000;
    private static final int WIDEST_MASK = 15;
    private static final int BYTES_FED = 20;
    private static final int BUCKETS = 64;
    private static final int NONE = -1;
    private static final int NOW = -1;

    // The lanes 0 .. 3 chain the facts that have the same in that column; this one chains the whole row.
    private static final int ROW = 4;
    private static final int LANES = 5;

    private static final int NUMBER = 0;
    private static final int KNOWN = 1;
    private static final int NEW = 2;
    private static final int AGAIN = 3;
    private static final int ANYTHING = 4;

    private final byte[] tape = new byte[MOST_BYTES];
    private final int[] values = new int[MOST_COLUMNS];
    private final Store store = new Store();
    private final Look[] cursors = new Look[MOST_CURSORS];
    private final boolean[] isOpen = new boolean[MOST_CURSORS];
    private final int[] found = new int[MOST_FACTS];
    private final Look look = new Look();
    private final Reader reader = new Reader();
    private final Solver solver = new Solver();
    private int tapeLength;
    private int foundCount;
    private int lookedAt;

    public FactKeeper() {
        for (int i = 0; i < MOST_CURSORS; i++) {
            cursors[i] = new Look();
        }
    }

    public int feed(int a, int b, int c, int d, int e) throws IndexOutOfBoundsException {
        if (tapeLength > MOST_BYTES - BYTES_FED) {
            throw new IndexOutOfBoundsException("the tape is full");
        }
        putBytes(a);
        putBytes(b);
        putBytes(c);
        putBytes(d);
        putBytes(e);
        return tapeLength;
    }

    public int end(int n) throws IllegalArgumentException {
        requireRange(n, 0, tapeLength);
        tapeLength = n;
        return n;
    }

    public int value(int k, int v) throws IllegalArgumentException {
        requireRange(k, 0, MOST_COLUMNS - 1);
        int before = values[k];
        values[k] = v;
        return before;
    }

    public int table(int columns) throws IllegalArgumentException, IllegalStateException {
        requireRange(columns, 1, MOST_COLUMNS);
        int number = store.makeTable(columns);
        if (number == NONE) {
            throw new IllegalStateException("all tables are there");
        }
        return number;
    }

    public int index(int t, int k) throws NoSuchElementException, IllegalArgumentException {
        Table table = tableOf(t);
        requireRange(k, 0, table.columns - 1);
        return table.makeIndex(k) ? 1 : 0;
    }

    public int key(int t, int mask)
            throws NoSuchElementException, IllegalArgumentException, IllegalStateException, IndexOutOfBoundsException {
        Table table = tableOf(t);
        requireRange(mask, 1, table.allColumns());
        if (table.hasTwins(mask)) {
            throw new IllegalStateException("two facts have the same");
        }
        if (table.hasKey(mask)) {
            return 0;
        }
        if (!table.makeKey(mask)) {
            throw new IndexOutOfBoundsException("the table has all its keys");
        }
        return 1;
    }

    public int add(int t, int ahead)
            throws IllegalArgumentException, NoSuchElementException, UnsupportedOperationException,
                    IllegalStateException {
        requireRange(ahead, 0, 1);
        Table table = tableOf(t);
        if (table.breaksKey(values)) {
            throw new UnsupportedOperationException("a fact has the same in a key");
        }
        Fact fact = store.come(table, values);
        if (fact == null) {
            throw new IllegalStateException("full");
        }
        table.place(fact, ahead == 1);
        return fact.number;
    }

    public int remove(int t, int mask, int all) throws IllegalArgumentException, NoSuchElementException {
        requireRange(all, 0, 1);
        beginLook(look, t, mask, NOW);
        int answer = all == 0 ? removeFirst() : removeAll();
        lookedAt = look.takeLookedAt();
        return answer;
    }

    public int find(int t, int mask, int at) throws IllegalArgumentException, NoSuchElementException {
        beginLook(look, t, mask, at);
        Fact fact = look.advance();
        lookedAt = look.takeLookedAt();
        return numberOf(fact);
    }

    public int many(int t, int mask, int at) throws IllegalArgumentException, NoSuchElementException {
        beginLook(look, t, mask, at);
        int many = 0;
        while (many < MOST_FACTS && look.advance() != null) {
            many++;
        }
        lookedAt = look.takeLookedAt();
        return many;
    }

    public int open(int t, int mask, int at)
            throws IllegalArgumentException, NoSuchElementException, IllegalStateException {
        requireLook(t, mask, at);
        int number = freeCursor();
        if (number == NONE) {
            throw new IllegalStateException("all cursors are open");
        }
        beginLook(cursors[number], t, mask, at);
        isOpen[number] = true;
        return number;
    }

    public int next(int cursor) throws IllegalArgumentException, NoSuchElementException {
        requireOpen(cursor);
        Fact fact = cursors[cursor].advance();
        lookedAt = cursors[cursor].takeLookedAt();
        return numberOf(fact);
    }

    public int close(int cursor) throws IllegalArgumentException, NoSuchElementException {
        requireOpen(cursor);
        isOpen[cursor] = false;
        return cursors[cursor].told;
    }

    public int fact(int number, int what) throws IllegalArgumentException, NoSuchElementException {
        requireRange(what, 0, 7);
        Fact fact = store.withNumber(number);
        if (fact == null) {
            throw new NoSuchElementException("no such fact");
        }
        switch (what) {
            case 4:
                return fact.table.number;
            case 5:
                return fact.born;
            case 6:
                return fact.died;
            case 7:
                return fact.table.row.factsAhead(fact);
            default:
                return fact.columns[what];
        }
    }

    public int mark() throws IllegalStateException {
        if (!store.history.makeMark()) {
            throw new IllegalStateException("all marks are there");
        }
        return store.history.markCount;
    }

    public int back(boolean taken) throws IllegalStateException {
        if (store.history.markCount == 0) {
            throw new IllegalStateException("there is no mark");
        }
        if (taken && !store.hasRoomToTurn()) {
            throw new IllegalStateException("full");
        }
        int from = store.history.dropMark();
        int turned = taken ? store.turn(from) : 0;
        store.history.forgetWithoutMarks();
        return turned;
    }

    public int purge(int at) throws IllegalArgumentException, IllegalStateException {
        requireTime(at);
        if (openCursors() > 0 || store.history.markCount > 0) {
            throw new IllegalStateException("a cursor or a mark is there");
        }
        return store.forgetDead(store.timeOf(at));
    }

    public int changes(int t, int first, int second) throws IllegalArgumentException, NoSuchElementException {
        requireTime(first);
        requireTime(second);
        Table table = tableOf(t);
        int before = store.timeOf(first);
        int after = store.timeOf(second);
        foundCount = 0;
        for (Fact fact = table.row.first; fact != null; fact = fact.behind[ROW]) {
            if (fact.isThere(after) && !fact.isThere(before)) {
                putFound(fact.number);
            }
        }
        for (Fact fact = table.row.first; fact != null; fact = fact.behind[ROW]) {
            if (fact.isThere(before) && !fact.isThere(after)) {
                putFound(-1 - fact.number);
            }
        }
        return foundCount;
    }

    public int found(int i) throws IndexOutOfBoundsException {
        if (i < 0 || i >= foundCount) {
            throw new IndexOutOfBoundsException("there is none such");
        }
        return found[i];
    }

    public int question(int at) throws IllegalArgumentException, UnsupportedOperationException, ArithmeticException {
        int length = tapeLength;
        tapeLength = 0;
        reader.place = NONE;
        requireTime(at);
        reader.readQuestion(tape, length, store);
        // The solver throws if it looks at more: this is what count then answers.
        lookedAt = MOST_LOOKED_AT + 1;
        int solutions = solver.solveAll(reader, store.timeOf(at));
        lookedAt = solver.lookedAt;
        return solutions;
    }

    public int solution(int i, int k) throws IllegalArgumentException, IndexOutOfBoundsException {
        requireRange(k, 0, MOST_VARIABLES - 1);
        Solutions latest = solver.latest;
        if (i < 0 || i >= latest.keptCount() || !isIn(latest.known, k)) {
            throw new IndexOutOfBoundsException("there is none such");
        }
        return latest.kept[i * MOST_VARIABLES + k];
    }

    public int count(int what) throws IllegalArgumentException {
        requireRange(what, 0, 9 + MOST_TABLES);
        switch (what) {
            case 0:
                return tapeLength;
            case 1:
                return store.tableCount;
            case 2:
                return store.time;
            case 3:
                return store.keptCount;
            case 4:
                return store.horizon;
            case 5:
                return lookedAt;
            case 6:
                return reader.place;
            case 7:
                return openCursors();
            case 8:
                return store.history.markCount;
            case 9:
                return Integer.bitCount(solver.latest.known);
            default:
                return factsThereNow(what - 10);
        }
    }

    private void putBytes(int four) {
        for (int shift = 24; shift >= 0 && tapeLength < MOST_BYTES; shift -= 8) {
            tape[tapeLength] = (byte) (four >> shift);
            tapeLength++;
        }
    }

    private void putFound(int what) {
        if (foundCount < MOST_FACTS) {
            found[foundCount] = what;
            foundCount++;
        }
    }

    private int removeFirst() {
        Fact fact = look.advance();
        if (fact != null) {
            store.go(fact);
        }
        return numberOf(fact);
    }

    private int removeAll() {
        int gone = 0;
        while (gone < MOST_FACTS) {
            Fact fact = look.advance();
            if (fact == null) {
                break;
            }
            store.go(fact);
            gone++;
        }
        return gone;
    }

    private void requireLook(int t, int mask, int at) {
        requireRange(mask, 0, WIDEST_MASK);
        requireTime(at);
        tableOf(t);
    }

    private void beginLook(Look begun, int t, int mask, int at) {
        requireLook(t, mask, at);
        begun.begin(tableOf(t), mask, values, store.timeOf(at));
    }

    private int factsThereNow(int t) {
        Table table = store.tableAt(t);
        return table == null ? NONE : table.factsThereNow();
    }

    private int freeCursor() {
        for (int i = 0; i < MOST_CURSORS; i++) {
            if (!isOpen[i]) {
                return i;
            }
        }
        return NONE;
    }

    private int openCursors() {
        int open = 0;
        for (int i = 0; i < MOST_CURSORS; i++) {
            if (isOpen[i]) {
                open++;
            }
        }
        return open;
    }

    private void requireOpen(int cursor) {
        requireRange(cursor, 0, MOST_CURSORS - 1);
        if (!isOpen[cursor]) {
            throw new NoSuchElementException("no such cursor");
        }
    }

    private Table tableOf(int t) {
        Table table = store.tableAt(t);
        if (table == null) {
            throw new NoSuchElementException("no such table");
        }
        return table;
    }

    private void requireTime(int at) {
        if (at != NOW) {
            requireRange(at, store.horizon, store.time);
        }
    }

    private static void requireRange(int number, int least, int most) {
        if (number < least || number > most) {
            throw new IllegalArgumentException("a number out of range");
        }
    }

    private static int numberOf(Fact fact) {
        return fact == null ? NONE : fact.number;
    }

    private static boolean isIn(int mask, int k) {
        return (mask >> k & 1) == 1;
    }

    private static final class Fact {
        final int[] columns = new int[MOST_COLUMNS];
        final Fact[] behind = new Fact[LANES];
        Table table;
        Fact standIn;
        int number;
        int born;
        int died;

        boolean isThere(int time) {
            return born <= time && (died == NONE || time < died);
        }

        boolean isThereNow() {
            return died == NONE;
        }

        boolean fits(int mask, int[] wanted) {
            for (int k = 0; k < MOST_COLUMNS; k++) {
                if (isIn(mask, k) && columns[k] != wanted[k]) {
                    return false;
                }
            }
            return true;
        }
    }

    /** Facts one behind the other in one lane: a row, or those of a row that have the same in a column. */
    private static final class Chain {
        final int lane;
        final int shared;
        final Chain sibling;
        Fact first;
        Fact last;

        Chain(int lane, int shared, Chain sibling) {
            this.lane = lane;
            this.shared = shared;
            this.sibling = sibling;
        }

        void putAhead(Fact fact) {
            fact.behind[lane] = first;
            first = fact;
            if (last == null) {
                last = fact;
            }
        }

        void putBehind(Fact fact) {
            if (last == null) {
                putAhead(fact);
            } else {
                putAfter(fact, last);
            }
        }

        void putAfter(Fact fact, Fact before) {
            fact.behind[lane] = before.behind[lane];
            before.behind[lane] = fact;
            if (last == before) {
                last = fact;
            }
        }

        void empty() {
            first = null;
            last = null;
        }

        int factsAhead(Fact fact) {
            int ahead = 0;
            for (Fact other = first; other != null && other != fact; other = other.behind[lane]) {
                ahead++;
            }
            return ahead;
        }
    }

    /** The chains of one column, each with the facts that have the same there. */
    private static final class Index {
        final int column;
        final Chain[] buckets = new Chain[BUCKETS];

        Index(int column) {
            this.column = column;
        }

        Chain chainWith(int shared) {
            Chain chain = buckets[shared & BUCKETS - 1];
            while (chain != null && chain.shared != shared) {
                chain = chain.sibling;
            }
            return chain;
        }

        Chain chainFor(Fact fact) {
            int shared = fact.columns[column];
            Chain chain = chainWith(shared);
            if (chain == null) {
                int bucket = shared & BUCKETS - 1;
                chain = new Chain(column, shared, buckets[bucket]);
                buckets[bucket] = chain;
            }
            return chain;
        }

        // The chains stay, so that a purge makes no new ones.
        void empty() {
            for (int i = 0; i < BUCKETS; i++) {
                for (Chain chain = buckets[i]; chain != null; chain = chain.sibling) {
                    chain.empty();
                }
            }
        }
    }

    private static final class Table {
        final int number;
        final int columns;
        final Chain row = new Chain(ROW, 0, null);
        final Index[] indexes = new Index[MOST_COLUMNS];
        final int[] keys = new int[MOST_KEYS];
        int keyCount;

        Table(int number, int columns) {
            this.number = number;
            this.columns = columns;
        }

        int allColumns() {
            return (1 << columns) - 1;
        }

        boolean makeIndex(int k) {
            if (k < 0 || k >= columns || indexes[k] != null) {
                return false;
            }
            Index made = new Index(k);
            for (Fact fact = row.first; fact != null; fact = fact.behind[ROW]) {
                made.chainFor(fact).putBehind(fact);
            }
            indexes[k] = made;
            return true;
        }

        boolean hasKey(int mask) {
            for (int i = 0; i < keyCount; i++) {
                if (keys[i] == mask) {
                    return true;
                }
            }
            return false;
        }

        boolean makeKey(int mask) {
            if (keyCount >= MOST_KEYS) {
                return false;
            }
            keys[keyCount] = mask;
            keyCount++;
            return true;
        }

        boolean hasTwins(int mask) {
            for (Fact fact = row.first; fact != null; fact = fact.behind[ROW]) {
                if (fact.isThereNow() && isThereNowFrom(fact.behind[ROW], mask, fact.columns)) {
                    return true;
                }
            }
            return false;
        }

        boolean breaksKey(int[] wanted) {
            for (int i = 0; i < keyCount; i++) {
                if (isThereNowFrom(row.first, keys[i], wanted)) {
                    return true;
                }
            }
            return false;
        }

        private static boolean isThereNowFrom(Fact from, int mask, int[] wanted) {
            for (Fact fact = from; fact != null; fact = fact.behind[ROW]) {
                if (fact.isThereNow() && fact.fits(mask, wanted)) {
                    return true;
                }
            }
            return false;
        }

        int factsThereNow() {
            int there = 0;
            for (Fact fact = row.first; fact != null; fact = fact.behind[ROW]) {
                if (fact.isThereNow()) {
                    there++;
                }
            }
            return there;
        }

        void place(Fact fact, boolean ahead) {
            placeIn(row, fact, ahead);
            for (int k = 0; k < columns; k++) {
                if (indexes[k] != null) {
                    placeIn(indexes[k].chainFor(fact), fact, ahead);
                }
            }
        }

        private static void placeIn(Chain chain, Fact fact, boolean ahead) {
            if (ahead) {
                chain.putAhead(fact);
            } else {
                chain.putBehind(fact);
            }
        }

        // The two have the same in all columns, so they are neighbours in every chain.
        void placeAfter(Fact fact, Fact before) {
            row.putAfter(fact, before);
            for (int k = 0; k < columns; k++) {
                if (indexes[k] != null) {
                    indexes[k].chainFor(fact).putAfter(fact, before);
                }
            }
        }

        void dropDeadBy(int time) {
            Fact fact = row.first;
            row.empty();
            for (int k = 0; k < columns; k++) {
                if (indexes[k] != null) {
                    indexes[k].empty();
                }
            }
            while (fact != null) {
                Fact after = fact.behind[ROW];
                if (fact.isThereNow() || fact.died > time) {
                    place(fact, false);
                }
                fact = after;
            }
        }

        int laneFor(int mask) {
            for (int k = 0; k < columns; k++) {
                if (isIn(mask, k) && indexes[k] != null) {
                    return k;
                }
            }
            return ROW;
        }

        Fact firstIn(int lane, int[] wanted) {
            if (lane < 0 || lane >= MOST_COLUMNS || indexes[lane] == null) {
                return row.first;
            }
            Chain chain = indexes[lane].chainWith(wanted[lane]);
            return chain == null ? null : chain.first;
        }
    }

    /** All tables and the facts that are kept, with the time. */
    private static final class Store {
        final Table[] tables = new Table[MOST_TABLES];
        // Behind those that are kept lie those that are not any more, to be used again.
        final Fact[] kept = new Fact[MOST_FACTS];
        final History history = new History();
        int tableCount;
        int keptCount;
        int nextNumber;
        int time;
        int horizon;

        int makeTable(int columns) {
            if (tableCount >= MOST_TABLES) {
                return NONE;
            }
            tables[tableCount] = new Table(tableCount, columns);
            tableCount++;
            return tableCount - 1;
        }

        Table tableAt(int t) {
            return t < 0 || t >= tableCount ? null : tables[t];
        }

        int timeOf(int at) {
            return at == NOW ? time : at;
        }

        /** A new fact that has yet to be placed; null if there is no room. */
        Fact come(Table table, int[] columns) {
            if (keptCount >= MOST_FACTS) {
                return null;
            }
            if (kept[keptCount] == null) {
                kept[keptCount] = new Fact();
            }
            Fact fact = kept[keptCount];
            keptCount++;
            time++;
            fact.table = table;
            fact.standIn = null;
            fact.number = nextNumber;
            fact.born = time;
            fact.died = NONE;
            for (int k = 0; k < MOST_COLUMNS; k++) {
                fact.columns[k] = k < table.columns ? columns[k] : 0;
            }
            nextNumber++;
            history.note(fact, false);
            return fact;
        }

        void go(Fact fact) {
            time++;
            fact.died = time;
            history.note(fact, true);
        }

        Fact withNumber(int number) {
            for (int i = 0; i < keptCount; i++) {
                if (kept[i].number == number) {
                    return kept[i];
                }
            }
            return null;
        }

        boolean hasRoomToTurn() {
            return history.goneSinceMark() <= MOST_FACTS - keptCount;
        }

        int turn(int from) {
            int to = history.size;
            for (int i = to - 1; i >= from && i >= 0; i--) {
                Fact fact = history.facts[i];
                if (history.went[i]) {
                    comeAgain(fact);
                } else {
                    go(fact.standIn == null ? fact : fact.standIn);
                }
            }
            return to - from;
        }

        private void comeAgain(Fact gone) {
            Fact fact = come(gone.table, gone.columns);
            if (fact != null) {
                gone.table.placeAfter(fact, gone);
                gone.standIn = fact;
            }
        }

        int forgetDead(int until) {
            horizon = Math.max(horizon, until);
            for (int t = 0; t < tableCount; t++) {
                tables[t].dropDeadBy(horizon);
            }
            int before = keptCount;
            keptCount = 0;
            for (int i = 0; i < before; i++) {
                Fact fact = kept[i];
                if (fact.isThereNow() || fact.died > horizon) {
                    kept[i] = kept[keptCount];
                    kept[keptCount] = fact;
                    keptCount++;
                }
            }
            return before - keptCount;
        }
    }

    /** The marks, and all changes since the first of them. */
    private static final class History {
        // No purge comes between marks, so each kept fact can come once and go once.
        final Fact[] facts = new Fact[2 * MOST_FACTS];
        final boolean[] went = new boolean[2 * MOST_FACTS];
        final int[] marks = new int[MOST_MARKS];
        int size;
        int markCount;

        void note(Fact fact, boolean isGone) {
            if (markCount > 0 && size < facts.length) {
                facts[size] = fact;
                went[size] = isGone;
                size++;
            }
        }

        boolean makeMark() {
            if (markCount >= MOST_MARKS) {
                return false;
            }
            marks[markCount] = size;
            markCount++;
            return true;
        }

        /** Where the changes since the latest mark begin. */
        int dropMark() {
            if (markCount == 0) {
                return size;
            }
            markCount--;
            return marks[markCount];
        }

        int goneSinceMark() {
            int gone = 0;
            if (markCount > 0) {
                for (int i = marks[markCount - 1]; i < size; i++) {
                    gone += went[i] ? 1 : 0;
                }
            }
            return gone;
        }

        void forgetWithoutMarks() {
            if (markCount == 0) {
                size = 0;
            }
        }
    }

    /** One who looks for facts of a table that fit and are there at a time. */
    private static final class Look {
        int told;
        private final int[] wanted = new int[MOST_COLUMNS];
        private Table table;
        private int mask;
        private int time;
        private Fact last;
        private boolean isAtEnd;
        private int lookedAt;

        void begin(Table sought, int columns, int[] values, int at) {
            table = sought;
            mask = columns & sought.allColumns();
            time = at;
            last = null;
            isAtEnd = false;
            told = 0;
            lookedAt = 0;
            for (int k = 0; k < MOST_COLUMNS; k++) {
                wanted[k] = values[k];
            }
        }

        Fact advance() {
            if (isAtEnd || table == null) {
                return null;
            }
            // Asked each time: an index may have come since the look began.
            int lane = table.laneFor(mask);
            Fact fact = last == null ? table.firstIn(lane, wanted) : last.behind[lane];
            while (fact != null) {
                lookedAt++;
                if (fact.isThere(time) && fact.fits(mask, wanted)) {
                    last = fact;
                    told++;
                    return fact;
                }
                fact = fact.behind[lane];
            }
            isAtEnd = true;
            return null;
        }

        /** How many were looked at since this was asked last. */
        int takeLookedAt() {
            int taken = lookedAt;
            lookedAt = 0;
            return taken;
        }
    }

    /** A part of a question; its sign is t, ! or the sign between its args. */
    private static final class Goal {
        final int[] kinds = new int[MOST_COLUMNS];
        final int[] args = new int[MOST_COLUMNS];
        int sign;
        Table table;
        int mask;
        int target;
    }

    /** Reads a question into goals, or tells the place where it is broken. */
    private static final class Reader {
        final Goal[] goals = new Goal[MOST_GOALS];
        int goalCount;
        int known;
        int place = NONE;
        private byte[] text;
        private int length;
        private int at;
        private Store store;

        Reader() {
            for (int i = 0; i < MOST_GOALS; i++) {
                goals[i] = new Goal();
            }
        }

        void readQuestion(byte[] bytes, int byteCount, Store tables) {
            text = bytes;
            length = byteCount;
            store = tables;
            at = 0;
            known = 0;
            for (int g = 0; g < MOST_GOALS; g++) {
                skipBlanks();
                if (here() == 't' || here() == '!') {
                    readTableGoal(goals[g]);
                } else {
                    readSignGoal(goals[g]);
                }
                goalCount = g + 1;
                skipBlanks();
                if (at >= length) {
                    return;
                }
                take(',');
            }
            skipBlanks();
            refuse(at);
        }

        private void readTableGoal(Goal goal) {
            goal.sign = here();
            if (goal.sign == '!') {
                at++;
                skipBlanks();
            }
            goal.table = readTable();
            goal.mask = 0;
            skipBlanks();
            take('(');
            int fresh = 0;
            for (int k = 0; k < goal.table.columns; k++) {
                if (k > 0) {
                    take(',');
                }
                skipBlanks();
                readArg(goal, k, true);
                fresh |= sortTableArg(goal, k, fresh);
                skipBlanks();
            }
            refuseArgTooMuch();
            take(')');
            if (goal.sign == 't') {
                known |= fresh;
            }
        }

        private Table readTable() {
            int start = at;
            take('t');
            int first = at;
            int number = readDigits();
            if (at == first || at - first > MOST_DIGITS) {
                refuse(first);
            }
            Table table = store.tableAt(number);
            if (table == null) {
                refuse(start);
            }
            return table;
        }

        /** The variable, as a mask, that this arg makes known; fresh are those of the args before it. */
        private int sortTableArg(Goal goal, int k, int fresh) {
            int variable = 0;
            if (goal.kinds[k] == NEW) {
                if (isIn(known, goal.args[k])) {
                    goal.kinds[k] = KNOWN;
                } else if (isIn(fresh, goal.args[k])) {
                    goal.kinds[k] = AGAIN;
                } else {
                    variable = 1 << goal.args[k];
                }
            }
            if (goal.kinds[k] == KNOWN || goal.kinds[k] == NUMBER) {
                goal.mask |= 1 << k;
            }
            return variable;
        }

        private void refuseArgTooMuch() {
            if (here() == ',') {
                at++;
                skipBlanks();
                refuse(at);
            }
        }

        private void readSignGoal(Goal goal) {
            int start = at;
            int made = 0;
            readArg(goal, 0, false);
            skipBlanks();
            if (here() == ':' && goal.kinds[0] == NEW) {
                goal.target = goal.args[0];
                made = 1 << goal.target;
                if ((known & made) != 0) {
                    refuse(start);
                }
                at++;
                readKnownArg(goal, 0);
                skipBlanks();
                goal.sign = readSign('+', '-', '*');
            } else {
                goal.sign = readSign('<', '=', '#');
                requireKnown(goal, 0, start);
            }
            readKnownArg(goal, 1);
            known |= made;
        }

        private int readSign(int one, int other, int third) {
            int sign = here();
            if (sign != one && sign != other && sign != third) {
                refuse(at);
            }
            at++;
            return sign;
        }

        private void readKnownArg(Goal goal, int k) {
            skipBlanks();
            int start = at;
            readArg(goal, k, false);
            requireKnown(goal, k, start);
        }

        private void requireKnown(Goal goal, int k, int start) {
            if (goal.kinds[k] == NEW) {
                if (!isIn(known, goal.args[k])) {
                    refuse(start);
                }
                goal.kinds[k] = KNOWN;
            }
        }

        // Every variable is NEW here; who asked knows whether it may be.
        private void readArg(Goal goal, int k, boolean mayBeAnything) {
            int first = here();
            if (first >= 'A' && first < 'A' + MOST_VARIABLES) {
                goal.kinds[k] = NEW;
                goal.args[k] = first - 'A';
                at++;
            } else if (first == '_' && mayBeAnything) {
                goal.kinds[k] = ANYTHING;
                at++;
            } else {
                goal.kinds[k] = NUMBER;
                goal.args[k] = readNumber();
            }
        }

        private int readNumber() {
            int start = at;
            boolean isNegative = here() == '-';
            if (isNegative) {
                at++;
            }
            int first = at;
            int number = readDigits();
            if (at == first || at - first > MOST_DIGITS) {
                refuse(start);
            }
            return isNegative ? -number : number;
        }

        private int readDigits() {
            int number = 0;
            while (at < length && text[at] >= '0' && text[at] <= '9') {
                number = number * 10 + text[at] - '0';
                at++;
            }
            return number;
        }

        private void skipBlanks() {
            while (at < length && here() == ' ') {
                at++;
            }
        }

        private void take(int due) {
            if (here() != due) {
                refuse(at);
            }
            at++;
        }

        private int here() {
            return at < 0 || at >= length || at >= text.length ? NONE : text[at] & 0xff;
        }

        private void refuse(int where) {
            place = where;
            throw new UnsupportedOperationException("the question is broken");
        }
    }

    private static final class Solutions {
        final int[] kept = new int[MOST_SOLUTIONS * MOST_VARIABLES];
        int known;
        int count;

        int keptCount() {
            return Math.min(count, MOST_SOLUTIONS);
        }

        void keep(int[] variables) {
            if (count < MOST_SOLUTIONS) {
                System.arraycopy(variables, 0, kept, count * MOST_VARIABLES, MOST_VARIABLES);
            }
            count++;
        }
    }

    /** Goes through the goals from the left, depth first. */
    private static final class Solver {
        Solutions latest = new Solutions();
        int lookedAt;
        private Solutions spare = new Solutions();
        private final Look[] looks = new Look[MOST_GOALS];
        private final int[] variables = new int[MOST_VARIABLES];
        private final int[] wanted = new int[MOST_COLUMNS];
        private Reader asked;
        private int time;

        Solver() {
            for (int i = 0; i < MOST_GOALS; i++) {
                looks[i] = new Look();
            }
        }

        int solveAll(Reader reader, int at) {
            asked = reader;
            time = at;
            lookedAt = 0;
            spare.known = reader.known;
            spare.count = 0;
            solve(0);
            Solutions done = spare;
            spare = latest;
            latest = done;
            return done.count;
        }

        private void solve(int g) {
            if (g >= asked.goalCount || g >= MOST_GOALS) {
                spare.keep(variables);
                return;
            }
            Goal goal = asked.goals[g];
            if (goal.sign == 't') {
                solveEach(goal, g);
            } else if (holds(goal, g)) {
                solve(g + 1);
            }
        }

        private void solveEach(Goal goal, int g) {
            Look look = looks[g];
            beginLook(look, goal);
            for (int n = 0; n < MOST_FACTS; n++) {
                if (!advanceTo(look, goal)) {
                    return;
                }
                solve(g + 1);
            }
        }

        private boolean holds(Goal goal, int g) {
            if (goal.sign == '!') {
                beginLook(looks[g], goal);
                return !advanceTo(looks[g], goal);
            }
            int left = valueOf(goal, 0);
            int right = valueOf(goal, 1);
            switch (goal.sign) {
                case '<':
                    return left < right;
                case '=':
                    return left == right;
                case '#':
                    return left != right;
                case '+':
                    variables[goal.target] = left + right;
                    return true;
                case '-':
                    variables[goal.target] = left - right;
                    return true;
                default:
                    variables[goal.target] = left * right;
                    return true;
            }
        }

        private void beginLook(Look look, Goal goal) {
            for (int k = 0; k < MOST_COLUMNS; k++) {
                wanted[k] = isIn(goal.mask, k) ? valueOf(goal, k) : 0;
            }
            look.begin(goal.table, goal.mask, wanted, time);
        }

        private boolean advanceTo(Look look, Goal goal) {
            for (int n = 0; n < MOST_FACTS; n++) {
                Fact fact = look.advance();
                lookedAt += look.takeLookedAt();
                if (lookedAt > MOST_LOOKED_AT) {
                    throw new ArithmeticException("too many were looked at");
                }
                if (fact == null) {
                    return false;
                }
                if (bind(goal, fact)) {
                    return true;
                }
            }
            return false;
        }

        private boolean bind(Goal goal, Fact fact) {
            for (int k = 0; k < goal.table.columns; k++) {
                if (goal.kinds[k] == NEW) {
                    variables[goal.args[k]] = fact.columns[k];
                } else if (goal.kinds[k] == AGAIN && variables[goal.args[k]] != fact.columns[k]) {
                    return false;
                }
            }
            return true;
        }

        private int valueOf(Goal goal, int k) {
            return goal.kinds[k] == KNOWN ? variables[goal.args[k]] : goal.args[k];
        }
    }
}
