import java.util.Random;

/** Many runs of calls by chance (the same ones each time), on a keeper and on the model side by side. */
public final class ModelTest {
    private static final int RUNS = 1500;
    // An object is promised 512 calls: 22 counts end a run, and a step that begins before takes at most 29.
    private static final int CALLS = 512 - 22 - 29;
    private static final int[] FAR = {
        Integer.MIN_VALUE, Integer.MIN_VALUE + 1, Integer.MAX_VALUE, Integer.MAX_VALUE - 1, 1 << 16, -1 << 16
    };

    private final Random random;
    private final FactKeeper keeper = new FactKeeper();
    private final PlainModel model = new PlainModel();
    private final int spread;
    private final int[] weights = new int[20];
    private int calls;

    private ModelTest(int seed) {
        random = new Random(seed);
        spread = 1 + random.nextInt(6);
        for (int i = 0; i < weights.length; i++) {
            weights[i] = 1 + random.nextInt(12);
        }
        weights[6] += 20;
        weights[11] += 10;
        // A purge wants neither cursors nor marks: some runs do without them.
        if (random.nextInt(3) == 0) {
            weights[10] = 0;
            weights[14] = 0;
        }
    }

    public static void main(String[] args) {
        int runs = args.length > 0 ? Integer.parseInt(args[0]) : RUNS;
        for (int seed = 0; seed < runs; seed++) {
            new ModelTest(seed).run(seed);
        }
        Check.finish("ModelTest");
    }

    private void run(int seed) {
        int tables = 1 + random.nextInt(4);
        for (int t = 0; t < tables; t++) {
            int columns = 1 + random.nextInt(4);
            same("table", () -> keeper.table(columns), () -> model.table(columns));
        }
        while (calls < CALLS) {
            String said = "seed " + seed + " call " + calls + " ";
            step(said, pick());
        }
        for (int what = 0; what <= 21; what++) {
            int asked = what;
            same("seed " + seed + " count", () -> keeper.count(asked), () -> model.count(asked));
        }
    }

    private int pick() {
        int sum = 0;
        for (int weight : weights) {
            sum += weight;
        }
        int left = random.nextInt(sum);
        int i = 0;
        while (left >= weights[i]) {
            left -= weights[i];
            i++;
        }
        return i;
    }

    private boolean isFar() {
        return random.nextInt(400) == 0;
    }

    private int far() {
        return FAR[random.nextInt(FAR.length)];
    }

    private int number(int most) {
        if (isFar()) {
            return far();
        }
        return random.nextInt(40) == 0 ? random.nextInt(most + 6) - 3 : random.nextInt(most + 1);
    }

    private int someTable() {
        if (isFar()) {
            return far();
        }
        int tables = model.count(1);
        return random.nextInt(50) == 0 ? random.nextInt(16) - 2 : random.nextInt(tables);
    }

    private int mask() {
        if (isFar()) {
            return far();
        }
        return random.nextInt(40) == 0 ? random.nextInt(24) - 4 : random.nextInt(16);
    }

    private int at() {
        if (random.nextInt(3) == 0) {
            return -1;
        }
        if (isFar()) {
            return far();
        }
        int horizon = model.count(4);
        int time = model.count(2);
        return random.nextInt(20) == 0 ? random.nextInt(time + 4) - 2 : horizon + random.nextInt(time - horizon + 1);
    }

    private void step(String said, int what) {
        int t = someTable();
        int mask = mask();
        int at = at();
        int other = at();
        int small = number(3);
        int one = number(1);
        int cursor = number(Math.min(9, model.count(7)));
        switch (what) {
            case 0 -> {
                if (random.nextInt(8) == 0) {
                    same(said + "table", () -> keeper.table(small), () -> model.table(small));
                }
            }
            case 1 -> {
                if (random.nextInt(6) == 0) {
                    same(said + "index " + t + " " + small, () -> keeper.index(t, small), () -> model.index(t, small));
                }
            }
            case 2 -> {
                if (random.nextInt(12) == 0) {
                    same(said + "key " + t + " " + mask, () -> keeper.key(t, mask), () -> model.key(t, mask));
                }
            }
            case 3, 4, 5 -> {
                int v = random.nextInt(20) == 0 ? far() : value();
                same(said + "value " + small + " " + v, () -> keeper.value(small, v), () -> model.value(small, v));
            }
            case 6 -> same(said + "add " + t + " " + one, () -> keeper.add(t, one), () -> model.add(t, one));
            case 7 -> same(said + "remove " + t + " " + mask + " " + one, () -> keeper.remove(t, mask, one),
                    () -> model.remove(t, mask, one));
            case 8 -> same(said + "find", () -> keeper.find(t, mask, at), () -> model.find(t, mask, at));
            case 9 -> same(said + "many", () -> keeper.many(t, mask, at), () -> model.many(t, mask, at));
            case 10 -> same(said + "open", () -> keeper.open(t, mask, at), () -> model.open(t, mask, at));
            case 11 -> same(said + "next " + cursor, () -> keeper.next(cursor), () -> model.next(cursor));
            case 12 -> same(said + "close " + cursor, () -> keeper.close(cursor), () -> model.close(cursor));
            case 13 -> same(said + "purge " + at, () -> keeper.purge(at), () -> model.purge(at));
            case 14 -> same(said + "mark", () -> keeper.mark(), () -> model.mark());
            case 15 -> {
                boolean taken = random.nextInt(3) > 0;
                same(said + "back " + taken, () -> keeper.back(taken), () -> model.back(taken));
            }
            case 16 -> {
                same(said + "changes", () -> keeper.changes(t, at, other), () -> model.changes(t, at, other));
                int i = number(4);
                same(said + "found " + i, () -> keeper.found(i), () -> model.found(i));
            }
            case 17 -> {
                int number = number(Math.max(0, model.count(2)));
                int part = number(7);
                same(said + "fact " + number + " " + part, () -> keeper.fact(number, part),
                        () -> model.fact(number, part));
            }
            default -> ask(said, at);
        }
        int counted = number(21);
        same(said + "count " + counted, () -> keeper.count(counted), () -> model.count(counted));
        if (what >= 7 && what <= 11 || what >= 18) {
            same(said + "looked at", () -> keeper.count(5), () -> model.count(5));
        }
    }

    private int value() {
        return random.nextInt(30) == 0 ? 64 * random.nextInt(3) : random.nextInt(spread) - random.nextInt(2);
    }

    private void ask(String said, int at) {
        String text = text();
        for (int from = 0; from < text.length() && from < 400; from += 20) {
            int[] f = new int[5];
            for (int i = 0; i < 20 && from + i < text.length(); i++) {
                f[i / 4] |= text.charAt(from + i) << 24 - 8 * (i % 4);
            }
            same(said + "feed", () -> keeper.feed(f[0], f[1], f[2], f[3], f[4]), () -> model.feed(f));
        }
        int end = random.nextInt(60) == 0 ? number(text.length()) : text.length();
        same(said + "end", () -> keeper.end(end), () -> model.end(end));
        same(said + "question " + text + " at " + at, () -> keeper.question(at), () -> model.question(at));
        same(said + "place of " + text, () -> keeper.count(6), () -> model.count(6));
        for (int n = 0; n < 4; n++) {
            int i = random.nextInt(8) == 0 ? number(100) : number(2);
            int k = random.nextInt(4) == 0 ? number(7) : number(2);
            same(said + "solution " + i + " " + k + " of " + text, () -> keeper.solution(i, k),
                    () -> model.solution(i, k));
        }
    }

    private String text() {
        StringBuilder text = new StringBuilder();
        int goals = 1 + random.nextInt(random.nextInt(12) == 0 ? 11 : 4);
        for (int g = 0; g < goals; g++) {
            text.append(g == 0 ? "" : ",").append(blank()).append(goal(g)).append(blank());
        }
        if (random.nextInt(6) == 0) {
            String odd = "t!ABH_019-+*<=#:,() ?\t\200";
            char one = odd.charAt(random.nextInt(odd.length()));
            int where = random.nextInt(text.length() + 1);
            if (random.nextBoolean() || where == text.length()) {
                text.insert(where, one);
            } else if (random.nextBoolean()) {
                text.setCharAt(where, one);
            } else {
                text.deleteCharAt(where);
            }
        }
        return text.length() > 400 ? text.substring(0, 400) : text.toString();
    }

    private String goal(int g) {
        int kind = random.nextInt(10);
        // A question that begins with a table can use its variables.
        if (kind < 7 || g == 0 && random.nextInt(8) > 0) {
            return (kind < 2 ? "!" + blank() : "") + tableGoal();
        }
        if (kind == 7) {
            return variable() + blank() + ":" + blank() + arg(false) + blank() + "+-*".charAt(random.nextInt(3))
                    + blank() + arg(false);
        }
        return arg(false) + blank() + "<=#".charAt(random.nextInt(3)) + blank() + arg(false);
    }

    private String tableGoal() {
        int t = random.nextInt(40) == 0 ? random.nextInt(13) : random.nextInt(model.count(1));
        int columns = random.nextInt(30) == 0 ? 1 + random.nextInt(5) : columnsOf(t);
        StringBuilder goal = new StringBuilder("t").append(t).append(blank()).append("(");
        for (int k = 0; k < columns; k++) {
            goal.append(k == 0 ? "" : ",").append(blank()).append(arg(true)).append(blank());
        }
        return goal.append(")").toString();
    }

    private int columnsOf(int t) {
        return t < model.count(1) ? model.columns(t) : 1;
    }

    private String arg(boolean inTable) {
        int kind = random.nextInt(inTable ? 8 : 6);
        if (kind > 5) {
            return "_";
        }
        if (kind < 2) {
            return random.nextInt(60) == 0 ? "-1234567890".substring(random.nextInt(2)) : String.valueOf(value());
        }
        return variable();
    }

    private String variable() {
        return String.valueOf((char) ('A' + random.nextInt(random.nextInt(4) == 0 ? 8 : 3)));
    }

    private String blank() {
        return random.nextInt(10) == 0 ? "  ".substring(random.nextInt(2)) : "";
    }

    private void same(String said, Check.Call asked, Check.Call due) {
        calls++;
        Check.note(said, outcome(due), outcome(asked));
    }

    private static String outcome(Check.Call call) {
        try {
            return String.valueOf(call.answer());
        } catch (RuntimeException e) {
            return e.getClass().getName();
        }
    }
}
