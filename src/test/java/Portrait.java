import java.util.ArrayList;
import java.util.List;

/**
 * All that can be asked of a keeper, a line each: two keepers with the same portrait are in the same state. Taking one
 * uses the keeper up, as cursors are led to their end, marks are taken back, and so on; it takes fewer than 350 calls.
 */
final class Portrait {
    private final FactKeeper keeper;
    private final List<String> lines = new ArrayList<>();

    private Portrait(FactKeeper keeper) {
        this.keeper = keeper;
    }

    static List<String> of(FactKeeper keeper) {
        Portrait portrait = new Portrait(keeper);
        portrait.counts();
        portrait.values();
        portrait.facts();
        portrait.foundAndSolutions();
        portrait.cursors();
        portrait.tape();
        portrait.marks();
        portrait.indexesAndKeys();
        portrait.whatComesNext();
        return portrait.lines;
    }

    private void line(String call, Check.Call asked) {
        lines.add(call + " " + Check.answer(asked));
    }

    private void counts() {
        for (int what = 0; what <= 21; what++) {
            int asked = what;
            line("count(" + what + ")", () -> keeper.count(asked));
        }
    }

    private void values() {
        for (int k = 0; k < 4; k++) {
            int asked = k;
            int was = keeper.value(k, 0);
            line("value " + k, () -> was);
            keeper.value(asked, was);
        }
    }

    private void facts() {
        for (int number = 0; number < 10; number++) {
            for (int what = 0; what < 8; what++) {
                int asked = number;
                int of = what;
                line("fact(" + number + ", " + what + ")", () -> keeper.fact(asked, of));
            }
        }
    }

    private void foundAndSolutions() {
        for (int i = 0; i < 6; i++) {
            int asked = i;
            line("found(" + i + ")", () -> keeper.found(asked));
        }
        for (int i = 0; i < 4; i++) {
            for (int k = 0; k < 8; k++) {
                int asked = i;
                int variable = k;
                line("solution(" + i + ", " + k + ")", () -> keeper.solution(asked, variable));
            }
        }
    }

    private void cursors() {
        for (int c = 0; c < 10; c++) {
            int cursor = c;
            for (int i = 0; i < 4; i++) {
                line("next(" + c + ")", () -> keeper.next(cursor));
                line("looked at", () -> keeper.count(5));
            }
            line("close(" + c + ")", () -> keeper.close(cursor));
        }
    }

    private void tape() {
        line("question", () -> keeper.question(-1));
        line("place", () -> keeper.count(6));
        line("looked at", () -> keeper.count(5));
        line("variables", () -> keeper.count(9));
    }

    private void marks() {
        for (int i = 0; i < 9; i++) {
            line("back", () -> keeper.back(true));
            line("time", () -> keeper.count(2));
        }
        line("kept", () -> keeper.count(3));
    }

    private void indexesAndKeys() {
        for (int t = 0; t < 2; t++) {
            for (int k = 0; k < 4; k++) {
                int table = t;
                int asked = k;
                line("index(" + t + ", " + k + ")", () -> keeper.index(table, asked));
                line("key(" + t + ", " + (k + 1) + ")", () -> keeper.key(table, asked + 1));
            }
        }
    }

    private void whatComesNext() {
        line("mark", () -> keeper.mark());
        line("open", () -> keeper.open(0, 0, -1));
        line("table", () -> keeper.table(1));
        line("add", () -> keeper.add(keeper.count(1) - 1, 0));
        line("feed", () -> keeper.feed(0, 0, 0, 0, 0));
    }
}
