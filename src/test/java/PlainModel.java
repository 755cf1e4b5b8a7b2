import java.util.ArrayList;
import java.util.HashSet;
import java.util.List;
import java.util.NoSuchElementException;
import java.util.Set;

/** The document written down once more, as plainly as the Java library allows: rows are lists, an index is a filter. */
final class PlainModel {
    private static final class Fact {
        int table;
        int number;
        int born;
        int died = -1;
        int[] columns;
        Fact standIn = this;

        boolean thereAt(int time) {
            return born <= time && (died < 0 || time < died);
        }
    }

    private static final class Cursor {
        int table;
        int mask;
        int time;
        int told;
        int[] values;
        Fact last;
        boolean ended;
    }

    private record Change(Fact fact, boolean went) {
    }

    private static final class Table {
        int columns;
        int indexes;
        final Set<Integer> keys = new HashSet<>();
        final List<Fact> row = new ArrayList<>();
    }

    private final StringBuilder tape = new StringBuilder();
    private final int[] values = new int[4];
    private final List<Table> tables = new ArrayList<>();
    private final Cursor[] cursors = new Cursor[10];
    private final List<Integer> marks = new ArrayList<>();
    private final List<Change> changed = new ArrayList<>();
    private final List<Integer> found = new ArrayList<>();
    private int time;
    private int horizon;
    private int kept;
    private int numbers;
    private int lookedAt;
    private int place = -1;
    private List<int[]> solutions = new ArrayList<>();
    private Set<Integer> known = new HashSet<>();

    private static void range(boolean isRight) {
        if (!isRight) {
            throw new IllegalArgumentException();
        }
    }

    private Table there(int t) {
        if (t < 0 || t >= tables.size()) {
            throw new NoSuchElementException();
        }
        return tables.get(t);
    }

    private int at(int at) {
        range(at == -1 || at >= horizon && at <= time);
        return at == -1 ? time : at;
    }

    int feed(int... fours) {
        if (tape.length() + 20 > 400) {
            throw new IndexOutOfBoundsException();
        }
        for (int four : fours) {
            for (int shift = 24; shift >= 0; shift -= 8) {
                tape.append((char) (four >>> shift & 255));
            }
        }
        return tape.length();
    }

    int end(int n) {
        range(n >= 0 && n <= tape.length());
        tape.setLength(n);
        return n;
    }

    int value(int k, int v) {
        range(k >= 0 && k < 4);
        int was = values[k];
        values[k] = v;
        return was;
    }

    int table(int columns) {
        range(columns >= 1 && columns <= 4);
        if (tables.size() == 12) {
            throw new IllegalStateException();
        }
        Table made = new Table();
        made.columns = columns;
        tables.add(made);
        return tables.size() - 1;
    }

    int columns(int t) {
        return there(t).columns;
    }

    int index(int t, int k) {
        Table table = there(t);
        range(k >= 0 && k < table.columns);
        int before = table.indexes;
        table.indexes |= 1 << k;
        return before == table.indexes ? 0 : 1;
    }

    int key(int t, int mask) {
        Table table = there(t);
        range(mask >= 1 && mask < 1 << table.columns);
        Set<List<Integer>> seen = new HashSet<>();
        for (Fact fact : table.row) {
            List<Integer> part = new ArrayList<>();
            for (int k = 0; k < table.columns; k++) {
                part.add((mask & 1 << k) == 0 ? 0 : fact.columns[k]);
            }
            if (fact.died < 0 && !seen.add(part)) {
                throw new IllegalStateException();
            }
        }
        if (table.keys.contains(mask)) {
            return 0;
        }
        if (table.keys.size() == 3) {
            throw new IndexOutOfBoundsException();
        }
        table.keys.add(mask);
        return 1;
    }

    private static boolean fits(Table table, Fact fact, int mask, int[] wanted) {
        for (int k = 0; k < table.columns; k++) {
            if ((mask & 1 << k) != 0 && fact.columns[k] != wanted[k]) {
                return false;
            }
        }
        return true;
    }

    private Fact come(int t, int[] columns, int where) {
        Fact fact = new Fact();
        fact.table = t;
        fact.columns = columns.clone();
        fact.number = numbers++;
        fact.born = ++time;
        kept++;
        tables.get(t).row.add(where, fact);
        changed.add(new Change(fact, false));
        return fact;
    }

    private void go(Fact fact) {
        fact.died = ++time;
        changed.add(new Change(fact, true));
    }

    int add(int t, int ahead) {
        range(ahead == 0 || ahead == 1);
        Table table = there(t);
        for (int mask : table.keys) {
            for (Fact fact : table.row) {
                if (fact.died < 0 && fits(table, fact, mask, values)) {
                    throw new UnsupportedOperationException();
                }
            }
        }
        if (kept == 3000) {
            throw new IllegalStateException();
        }
        return come(t, values, ahead == 1 ? 0 : table.row.size()).number;
    }

    /** Those that are looked at, from behind the fact told last. */
    private static List<Fact> way(Table table, int mask, int[] wanted, Fact last) {
        int least = -1;
        for (int k = table.columns - 1; k >= 0; k--) {
            if ((mask & table.indexes & 1 << k) != 0) {
                least = k;
            }
        }
        List<Fact> way = new ArrayList<>();
        boolean isBehind = last == null;
        for (Fact fact : table.row) {
            if (isBehind && (least < 0 || fact.columns[least] == wanted[least])) {
                way.add(fact);
            }
            isBehind |= fact == last;
        }
        return way;
    }

    private List<Fact> fitting(int t, int mask, int moment, boolean firstAlone) {
        Table table = there(t);
        List<Fact> fitting = new ArrayList<>();
        lookedAt = 0;
        for (Fact fact : way(table, mask, values, null)) {
            lookedAt++;
            if (fact.thereAt(moment) && fits(table, fact, mask, values)) {
                fitting.add(fact);
                if (firstAlone) {
                    break;
                }
            }
        }
        return fitting;
    }

    int remove(int t, int mask, int all) {
        range(mask >= 0 && mask < 16 && (all == 0 || all == 1));
        List<Fact> going = fitting(t, mask, time, all == 0);
        for (Fact fact : going) {
            go(fact);
        }
        return all == 1 ? going.size() : going.isEmpty() ? -1 : going.get(0).number;
    }

    int find(int t, int mask, int at) {
        range(mask >= 0 && mask < 16);
        List<Fact> fitting = fitting(t, mask, at(at), true);
        return fitting.isEmpty() ? -1 : fitting.get(0).number;
    }

    int many(int t, int mask, int at) {
        range(mask >= 0 && mask < 16);
        return fitting(t, mask, at(at), false).size();
    }

    int open(int t, int mask, int at) {
        range(mask >= 0 && mask < 16);
        Cursor made = new Cursor();
        made.time = at(at);
        there(t);
        made.table = t;
        made.mask = mask;
        made.values = values.clone();
        for (int i = 0; i < 10; i++) {
            if (cursors[i] == null) {
                cursors[i] = made;
                return i;
            }
        }
        throw new IllegalStateException();
    }

    private Cursor cursor(int number) {
        range(number >= 0 && number < 10);
        if (cursors[number] == null) {
            throw new NoSuchElementException();
        }
        return cursors[number];
    }

    int next(int number) {
        Cursor cursor = cursor(number);
        Table table = tables.get(cursor.table);
        lookedAt = 0;
        if (!cursor.ended) {
            for (Fact fact : way(table, cursor.mask, cursor.values, cursor.last)) {
                lookedAt++;
                if (fact.thereAt(cursor.time) && fits(table, fact, cursor.mask, cursor.values)) {
                    cursor.last = fact;
                    cursor.told++;
                    return fact.number;
                }
            }
        }
        cursor.ended = true;
        return -1;
    }

    int close(int number) {
        int told = cursor(number).told;
        cursors[number] = null;
        return told;
    }

    int fact(int number, int what) {
        range(what >= 0 && what < 8);
        for (int t = 0; t < tables.size(); t++) {
            for (Fact fact : tables.get(t).row) {
                if (fact.number == number) {
                    return part(fact, what);
                }
            }
        }
        throw new NoSuchElementException();
    }

    private int part(Fact fact, int what) {
        Table table = tables.get(fact.table);
        return switch (what) {
            case 4 -> fact.table;
            case 5 -> fact.born;
            case 6 -> fact.died;
            case 7 -> table.row.indexOf(fact);
            default -> what < table.columns ? fact.columns[what] : 0;
        };
    }

    int mark() {
        if (marks.size() == 8) {
            throw new IllegalStateException();
        }
        marks.add(changed.size());
        return marks.size();
    }

    int back(boolean taken) {
        if (marks.isEmpty()) {
            throw new IllegalStateException();
        }
        List<Change> since = new ArrayList<>(changed.subList(marks.get(marks.size() - 1), changed.size()));
        if (taken && kept + since.stream().filter(Change::went).count() > 3000) {
            throw new IllegalStateException();
        }
        marks.remove(marks.size() - 1);
        if (!taken) {
            return 0;
        }
        for (int i = since.size() - 1; i >= 0; i--) {
            Fact fact = since.get(i).fact();
            if (since.get(i).went()) {
                fact.standIn = come(fact.table, fact.columns, tables.get(fact.table).row.indexOf(fact) + 1);
            } else {
                Fact going = fact.standIn;
                if (going.died >= 0) {
                    throw new IllegalStateException("the model is wrong: it went already");
                }
                go(going);
            }
        }
        return since.size();
    }

    int purge(int at) {
        int moment = at(at);
        if (count(7) > 0 || !marks.isEmpty()) {
            throw new IllegalStateException();
        }
        horizon = Math.max(horizon, moment);
        int before = kept;
        for (Table table : tables) {
            int size = table.row.size();
            table.row.removeIf(fact -> fact.died >= 0 && fact.died <= horizon);
            kept -= size - table.row.size();
        }
        return before - kept;
    }

    int changes(int t, int first, int second) {
        int before = at(first);
        int after = at(second);
        Table table = there(t);
        found.clear();
        for (Fact fact : table.row) {
            if (fact.thereAt(after) && !fact.thereAt(before)) {
                found.add(fact.number);
            }
        }
        for (Fact fact : table.row) {
            if (fact.thereAt(before) && !fact.thereAt(after)) {
                found.add(-1 - fact.number);
            }
        }
        return found.size();
    }

    int found(int i) {
        if (i < 0 || i >= found.size()) {
            throw new IndexOutOfBoundsException();
        }
        return found.get(i);
    }

    int solution(int i, int k) {
        range(k >= 0 && k < 8);
        if (i < 0 || i >= Math.min(100, solutions.size()) || !known.contains(k)) {
            throw new IndexOutOfBoundsException();
        }
        return solutions.get(i)[k];
    }

    int count(int what) {
        range(what >= 0 && what <= 21);
        switch (what) {
            case 0:
                return tape.length();
            case 1:
                return tables.size();
            case 2:
                return time;
            case 3:
                return kept;
            case 4:
                return horizon;
            case 5:
                return lookedAt;
            case 6:
                return place;
            case 7:
                int open = 0;
                for (Cursor cursor : cursors) {
                    open += cursor == null ? 0 : 1;
                }
                return open;
            case 8:
                return marks.size();
            case 9:
                return known.size();
            default:
                int t = what - 10;
                return t >= tables.size() ? -1 : (int) tables.get(t).row.stream().filter(f -> f.died < 0).count();
        }
    }

    // A goal is a text of its words: "t", "!" or a sign first, then the table or the new variable, then the args.
    private record Goal(char sign, int number, List<String> args) {
    }

    private static final class Broken extends Exception {
        private static final long serialVersionUID = 1;
        final int place;

        Broken(int place) {
            this.place = place;
        }
    }

    private static final class TooMuch extends Exception {
        private static final long serialVersionUID = 1;
    }

    private String text;
    private int read;

    int question(int at) {
        text = tape.toString();
        tape.setLength(0);
        place = -1;
        int moment = at(at);
        Set<Integer> nowKnown = new HashSet<>();
        List<Goal> goals;
        try {
            goals = goals(nowKnown);
        } catch (Broken broken) {
            place = broken.place;
            throw new UnsupportedOperationException();
        }
        List<int[]> all = new ArrayList<>();
        lookedAt = 0;
        try {
            solve(goals, 0, new Integer[8], moment, all);
        } catch (TooMuch e) {
            lookedAt = 50001;
            throw new ArithmeticException();
        }
        solutions = all;
        known = nowKnown;
        return all.size();
    }

    private char peek() {
        while (read < text.length() && text.charAt(read) == ' ') {
            read++;
        }
        return read < text.length() ? text.charAt(read) : '\0';
    }

    private char sign(String allowed) throws Broken {
        char sign = peek();
        if (read >= text.length() || allowed.indexOf(sign) < 0) {
            throw new Broken(read);
        }
        read++;
        return sign;
    }

    private String digits() {
        int from = read;
        while (read < text.length() && "0123456789".indexOf(text.charAt(read)) >= 0) {
            read++;
        }
        return text.substring(from, read);
    }

    private String arg(boolean inTable) throws Broken {
        char first = peek();
        int start = read;
        if (read < text.length() && "ABCDEFGH".indexOf(first) >= 0 || inTable && first == '_') {
            read++;
            return String.valueOf(first);
        }
        if (first == '-') {
            read++;
        }
        String digits = digits();
        if (digits.isEmpty() || digits.length() > 9) {
            throw new Broken(start);
        }
        return first == '-' ? "-" + digits : digits;
    }

    private static boolean isVariable(String arg) {
        return arg.charAt(0) >= 'A' && arg.charAt(0) <= 'H';
    }

    private String knownArg(Set<Integer> sofar) throws Broken {
        peek();
        int start = read;
        String arg = arg(false);
        if (isVariable(arg) && !sofar.contains(arg.charAt(0) - 'A')) {
            throw new Broken(start);
        }
        return arg;
    }

    private List<Goal> goals(Set<Integer> sofar) throws Broken {
        List<Goal> goals = new ArrayList<>();
        read = 0;
        do {
            char first = peek();
            if (goals.size() == 10) {
                throw new Broken(read);
            }
            goals.add(first == 't' || first == '!' ? tableGoal(sofar) : signGoal(sofar));
            if (peek() == '\0' && read >= text.length()) {
                return goals;
            }
            sign(",");
        } while (true);
    }

    private Goal tableGoal(Set<Integer> sofar) throws Broken {
        boolean isNot = peek() == '!';
        if (isNot) {
            read++;
        }
        peek();
        int start = read;
        sign("t");
        String digits = digits();
        if (digits.isEmpty() || digits.length() > 9) {
            throw new Broken(start + 1);
        }
        int number = Integer.parseInt(digits);
        if (number >= tables.size()) {
            throw new Broken(start);
        }
        List<String> args = new ArrayList<>();
        sign("(");
        do {
            peek();
            if (args.size() == tables.get(number).columns) {
                throw new Broken(read);
            }
            args.add(arg(true));
            peek();
            if (peek() == ')' && args.size() < tables.get(number).columns) {
                throw new Broken(read);
            }
        } while (sign(",)") == ',');
        if (!isNot) {
            for (String arg : args) {
                if (isVariable(arg)) {
                    sofar.add(arg.charAt(0) - 'A');
                }
            }
        }
        return new Goal(isNot ? '!' : 't', number, args);
    }

    private Goal signGoal(Set<Integer> sofar) throws Broken {
        peek();
        int start = read;
        String left = arg(false);
        if (!isVariable(left)) {
            return new Goal(sign("<=#"), 0, List.of(left, knownArg(sofar)));
        }
        int variable = left.charAt(0) - 'A';
        char sign = sign(":<=#");
        if (sofar.contains(variable) == (sign == ':')) {
            throw new Broken(start);
        }
        if (sign != ':') {
            return new Goal(sign, 0, List.of(left, knownArg(sofar)));
        }
        String one = knownArg(sofar);
        char sum = sign("+-*");
        String other = knownArg(sofar);
        sofar.add(variable);
        return new Goal(sum, variable, List.of(one, other));
    }

    private static Integer worth(String arg, Integer[] variables) {
        if (arg.equals("_")) {
            return null;
        }
        return isVariable(arg) ? variables[arg.charAt(0) - 'A'] : Integer.valueOf(arg);
    }

    private void solve(List<Goal> goals, int g, Integer[] variables, int moment, List<int[]> all) throws TooMuch {
        if (g == goals.size()) {
            int[] row = new int[8];
            for (int k = 0; k < 8; k++) {
                row[k] = variables[k] == null ? 0 : variables[k];
            }
            all.add(row);
            return;
        }
        Goal goal = goals.get(g);
        if (goal.sign() == 't' || goal.sign() == '!') {
            solveTable(goals, g, variables, moment, all);
            return;
        }
        int left = worth(goal.args().get(0), variables);
        int right = worth(goal.args().get(1), variables);
        Integer[] more = variables.clone();
        boolean holds = switch (goal.sign()) {
            case '<' -> left < right;
            case '=' -> left == right;
            case '#' -> left != right;
            default -> true;
        };
        switch (goal.sign()) {
            case '+' -> more[goal.number()] = left + right;
            case '-' -> more[goal.number()] = left - right;
            case '*' -> more[goal.number()] = left * right;
            default -> { }
        }
        if (holds) {
            solve(goals, g + 1, more, moment, all);
        }
    }

    private void solveTable(List<Goal> goals, int g, Integer[] variables, int moment, List<int[]> all)
            throws TooMuch {
        Goal goal = goals.get(g);
        Table table = tables.get(goal.number());
        int mask = 0;
        int[] wanted = new int[4];
        for (int k = 0; k < table.columns; k++) {
            Integer worth = worth(goal.args().get(k), variables);
            if (worth != null) {
                mask |= 1 << k;
                wanted[k] = worth;
            }
        }
        for (Fact fact : way(table, mask, wanted, null)) {
            if (++lookedAt > 50000) {
                throw new TooMuch();
            }
            if (!fact.thereAt(moment) || !fits(table, fact, mask, wanted)) {
                continue;
            }
            Integer[] more = variables.clone();
            boolean isSame = true;
            for (int k = 0; k < table.columns; k++) {
                String arg = goal.args().get(k);
                if (isVariable(arg)) {
                    Integer before = more[arg.charAt(0) - 'A'];
                    isSame &= before == null || before == fact.columns[k];
                    more[arg.charAt(0) - 'A'] = fact.columns[k];
                }
            }
            if (isSame && goal.sign() == '!') {
                return;
            }
            if (isSame) {
                solve(goals, g + 1, more, moment, all);
            }
        }
        if (goal.sign() == '!') {
            solve(goals, g + 1, variables, moment, all);
        }
    }
}
