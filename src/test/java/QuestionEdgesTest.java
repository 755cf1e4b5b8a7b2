/** The sentences of QUESTION in "Terms" that name an edge: what can stand where, and the PLACE of what can not. */
public final class QuestionEdgesTest {
    interface Place {
        /** Where the question with this byte is broken; -1 if it can stand. */
        int of(int one);
    }

    private static final int STANDS = -1;
    private static final int LEAST = Integer.MIN_VALUE;
    private static final int MOST = Integer.MAX_VALUE;

    public static void main(String[] args) {
        everyByteWhereAGoalBegins();
        everyByteInATableGoal();
        everyByteInASignGoal();
        everyByteBetweenGoals();
        everyBeginningOfAQuestion();
        oneToTenGoals();
        asManyArgsAsColumns();
        tablesThatAreNotThere();
        numbersOfOneToNineDigits();
        eightVariables();
        anythingInTablesAlone();
        variablesThatAreNotKnown();
        variablesThatAreKnown();
        variablesThatStandTwice();
        noneSuch();
        signs();
        sumsThatWrap();
        blanksWhereOneLikes();
        depthFirstInTheRowsOrder();
        maskOfWhatIsKnownAhead();
        aTapeToTheBrim();
        upTo50000LookedAt();
        theFirst100Solutions();
        Check.finish("QuestionEdgesTest");
    }

    /** t0 of two columns, t1 of one, t2 of four; no facts. */
    private static FactKeeper empty() {
        FactKeeper x = new FactKeeper();
        x.table(2);
        x.table(1);
        x.table(4);
        return x;
    }

    /** Broken there; or it can stand, and the keeper without facts answers what it may. */
    private static void due(String text, int place) {
        FactKeeper x = empty();
        if (place == STANDS) {
            String answer = Check.answer(() -> Check.ask(x, text));
            Check.note(text + " can stand", "true", String.valueOf(answer.equals("0") || answer.equals("1")));
            Check.due(text + " place", -1, () -> x.count(6));
        } else {
            Check.broken(x, text, place);
        }
    }

    private static void everyByte(String before, String after, Place due) {
        for (int one = 0; one < 256; one++) {
            due(before + (char) one + after, due.of(one));
        }
    }

    private static boolean isDigit(int one) {
        return one >= '0' && one <= '9';
    }

    private static boolean isVariable(int one) {
        return one >= 'A' && one <= 'H';
    }

    private static boolean isOneOf(int one, String some) {
        return some.indexOf(one) >= 0;
    }

    // "What can't stand there ..: PLACE: the first byte; the length at the end"
    private static void everyByteWhereAGoalBegins() {
        for (String before : new String[] {"", "1<2,", "  ", "1<2 ,  "}) {
            int at = before.length();
            everyByte(before, "", one -> isDigit(one) || isVariable(one) || isOneOf(one, "t! ") ? at + 1 : at);
        }
        everyByte("!", "t0(1,1)", one -> one == ' ' ? STANDS : one == 't' ? 2 : 1);
        everyByte("! ", "0(1,1)", one -> one == 't' ? STANDS : one == ' ' ? 3 : 2);
    }

    private static void everyByteInATableGoal() {
        everyByte("t", "(1,1)", one -> one == '0' ? STANDS : one == '1' ? 5 : one == '2' ? 6 : isDigit(one) ? 0 : 1);
        everyByte("t0", "1,1)",
                one -> one == '(' ? STANDS : one == ' ' ? 3 : one == '0' ? 4 : isDigit(one) ? 0 : 2);
        everyByte("t0(", ",1)",
                one -> isDigit(one) || isVariable(one) || one == '_' ? STANDS : one == ' ' ? 4 : 3);
        everyByte("t0(1", "1)", one -> one == ',' ? STANDS : one == ' ' ? 5 : isDigit(one) ? 6 : 4);
        everyByte("t0(1,", ")",
                one -> isDigit(one) || isVariable(one) || one == '_' ? STANDS : one == ' ' ? 6 : 5);
        everyByte("t0(A,B", "", one -> one == ')' ? STANDS : isOneOf(one, " ,") ? 7 : 6);
        everyByte("t1(-", ")", one -> isDigit(one) ? STANDS : 3);
        everyByte("t1(_", ")", one -> one == ' ' ? STANDS : isOneOf(one, ",)") ? 5 : 4);
        everyByte("!t1(A", ")", one -> one == ' ' ? STANDS : isOneOf(one, ",)") ? 6 : 5);
    }

    private static void everyByteInASignGoal() {
        everyByte("1", "2", one -> isOneOf(one, "<=#") ? STANDS : one == ' ' ? 2 : isDigit(one) ? 3 : 1);
        everyByte("1<", "", one -> isDigit(one) ? STANDS : one == ' ' ? 3 : 2);
        everyByte("A", "1+1", one -> one == ':' ? STANDS : one == ' ' ? 2 : isOneOf(one, "<=#") ? 0 : 1);
        everyByte("A:", "+1", one -> isDigit(one) ? STANDS : one == ' ' ? 3 : 2);
        everyByte("A:1", "2", one -> isOneOf(one, "+-*") ? STANDS : one == ' ' ? 4 : isDigit(one) ? 5 : 3);
        everyByte("A:1+", "", one -> isDigit(one) ? STANDS : one == ' ' ? 5 : 4);
        everyByte("-", "<2", one -> isDigit(one) ? STANDS : 0);
        everyByte("1<-", "", one -> isDigit(one) ? STANDS : 2);
        everyByte("t1(A),A", "1",
                one -> isOneOf(one, "<=#") ? STANDS : one == ' ' ? 8 : one == ':' ? 6 : 7);
        everyByte("t1(A),1<", "", one -> isDigit(one) || one == 'A' ? STANDS : one == ' ' ? 9 : 8);
    }

    private static void everyByteBetweenGoals() {
        everyByte("1<2", "1<2", one -> one == ',' ? STANDS : one == ' ' ? 4 : isDigit(one) ? 5 : 3);
        everyByte("t1(A)", "1<2", one -> one == ',' ? STANDS : one == ' ' ? 6 : 5);
        everyByte("A:1+2", "1<2", one -> one == ',' ? STANDS : one == ' ' ? 6 : isDigit(one) ? 7 : 5);
    }

    private static void everyBeginningOfAQuestion() {
        String text = " ! t1 ( _ ) , t0(A,-12),C : A * -30 , C # A,12<345";
        for (int length = 0; length <= text.length(); length++) {
            String beginning = text.substring(0, length);
            due(beginning, placeOfBeginning(beginning));
        }
    }

    private static int placeOfBeginning(String beginning) {
        if (beginning.endsWith("-")) {
            return beginning.length() - 1;
        }
        for (String last : new String[] {"_ )", "_ ) ", "-12)", "-3", "-30", "-30 ", "# A", "<3", "<34", "<345"}) {
            if (beginning.endsWith(last)) {
                return STANDS;
            }
        }
        return beginning.length();
    }

    // "GOALS, 1 to 10, with , between"; "an 11th GOAL"
    private static void oneToTenGoals() {
        for (String goal : new String[] {"t1(A)", "!t1(7)", "1<2", "2#1", " 1 = 1 "}) {
            String goals = goal;
            for (int many = 1; many <= 10; many++) {
                due(goals, STANDS);
                due(goals + ",", goals.length() + 1);
                goals += "," + goal;
            }
            int before = goals.length() - goal.length();
            int blanks = goal.startsWith(" ") ? 1 : 0;
            due(goals, before + blanks);
            due(goals + "," + goal, before + blanks);
            due(goals.substring(0, before) + "   " + goal, before + 3 + blanks);
            due(goals.substring(0, before) + "t9(1)", before);
        }
        due("", 0);
        due(",", 0);
        due("1<2,,1<2", 4);
    }

    // "a TABLE with as many ARGS as COLUMNS"; "as many ARGS as do not fit (the first one too much, or the ) )"
    private static void asManyArgsAsColumns() {
        int[] columns = {2, 1, 4};
        for (String before : new String[] {"", "!", "1<2, ", "! "}) {
            for (int t = 0; t < columns.length; t++) {
                for (int many = 0; many <= 6; many++) {
                    argsOf(before + "t" + t + "(", columns[t], many);
                }
            }
        }
        due("t1( A , B )", 8);
        due("t1(A,", 5);
        due("t1(A,)", 5);
        due("t1(A,?)", 5);
        due("t1(A,1234567890)", 5);
        due("t0( A )", 6);
        due("t0(A,)", 5);
        due("t0(A, )", 6);
        due("t1()", 3);
        due("t1( )", 4);
    }

    private static void argsOf(String before, int columns, int many) {
        StringBuilder text = new StringBuilder(before);
        int tooMuch = 0;
        for (int i = 0; i < many; i++) {
            text.append(i > 0 ? "," : "");
            if (i == columns) {
                tooMuch = text.length();
            }
            text.append(i % 2 == 0 ? "_" : "-5");
        }
        int end = text.length();
        text.append(")");
        due(text.toString(), many == columns ? STANDS : many > columns ? tooMuch : end);
    }

    // "a TABLE that is not there (its t)"
    private static void tablesThatAreNotThere() {
        FactKeeper x = new FactKeeper();
        Check.broken(x, "t0(A)", 0);
        x.table(1);
        Check.solved(x, "t0(A)", 0, 0);
        Check.broken(x, "t1(A)", 0);
        Check.broken(x, "1<2, t1(A)", 5);
        Check.broken(x, "!t1(A)", 1);
        Check.broken(x, " !  t1(A)", 4);
        Check.broken(x, "t1", 0);
        Check.broken(x, "t1?", 0);
        Check.broken(x, "t0(A),t1(A),t2(A)", 6);
        for (int t = 1; t < 12; t++) {
            x.table(1);
        }
        Check.solved(x, "t11(A)", 0, 0);
        Check.solved(x, "t000000011(A)", 0, 0);
        for (String text : new String[] {"t12(A)", "t13(A)", "t99(A)", "t110(A)", "t999999999(A)", "t000000012(A)"}) {
            Check.broken(x, text, 0);
        }
        // More digits are no number: their first byte can not stand, whatever table they would name.
        for (String text : new String[] {"t1234567890(A)", "t0000000001(A)", "t4294967296(A)", "t1000000000"}) {
            Check.broken(x, text, 1);
        }
    }

    // "a number ([-] 1 to 9 digits; one of more, or a - without a digit directly behind it: its first byte can not
    // stand)"
    private static void numbersOfOneToNineDigits() {
        FactKeeper x = empty();
        int[] ints = {0, 9, -9, 999999999, -999999999, 100000000, 7};
        for (int one : ints) {
            Check.behind(x, 1, one);
        }
        for (int i = 0; i < ints.length; i++) {
            Check.solved(x, "t1(" + ints[i] + ")", 1, 7);
            Check.solved(x, "A:" + ints[i] + "+0,t1(A)", 1, 7);
        }
        Check.solved(x, "t1(-0)", 1, 7);
        Check.solved(x, "t1(000000007)", 1, 7);
        Check.solved(x, "t1(-000000009)", 1, 7);
        Check.solved(x, "-000000000=000000000", 1, 0);
        due("t1(1000000000)", 3);
        due("t1(0000000007)", 3);
        due("t1(-1000000000)", 3);
        due("t1( -0000000000 )", 4);
        due("1000000000<1", 0);
        due("1<1000000000", 2);
        due("1<-1000000000", 2);
        due("A:1000000000+1", 2);
        due("A:1+1000000000", 4);
        due("A:1--1000000000", 4);
        due("1<99999999999999999999", 2);
        due("1<-", 2);
        due("1<- 1", 2);
        due("1<--1", 2);
        due("- 1<1", 0);
        due("A:1+-", 4);
        due("A:1--", 4);
        due("t1(-)", 3);
        due("t1(-A)", 3);
        due("t1(- 1)", 3);
        due("t1(1-1)", 4);
        due("t1(+1)", 3);
        due("1<1A", 3);
    }

    // "VARIABLE A .. H"
    private static void eightVariables() {
        FactKeeper x = empty();
        Check.behind(x, 2, 1, 2, 3, 4);
        Check.solved(x, "t2(H,G,F,E),t2(D,C,B,A)", 1, 2);
        Check.due("variables", 8, () -> x.count(9));
        int[] due = {4, 3, 2, 1, 4, 3, 2, 1};
        for (int k = 0; k < 8; k++) {
            int asked = k;
            Check.due("variable " + k, due[k], () -> x.solution(0, asked));
        }
        Check.solved(x, "A:0+0,B:0+1,C:0+2,D:0+3,E:0+4,F:0+5,G:0+6,H:0+7", 1, 0);
        for (int k = 0; k < 8; k++) {
            int asked = k;
            Check.due("variable " + k, k, () -> x.solution(0, asked));
        }
        Check.solved(x, "1<2", 1, 0);
        Check.due("none", 0, () -> x.count(9));
        for (int k = 0; k < 8; k++) {
            int asked = k;
            Check.thrown("no variable", IndexOutOfBoundsException.class, () -> x.solution(0, asked));
        }
        due("t1(I)", 3);
        due("t1(@)", 3);
        due("t1(a)", 3);
        due("I:1+1", 0);
        due("@:1+1", 0);
    }

    // "_ in TABLES alone (anything)"
    private static void anythingInTablesAlone() {
        FactKeeper x = empty();
        Check.behind(x, 0, 1, 2);
        Check.behind(x, 0, LEAST, MOST);
        Check.solved(x, "t0(_,_)", 2, 2);
        Check.solved(x, "t0(_,2)", 1, 2);
        Check.solved(x, "!t0(_,3)", 1, 2);
        Check.solved(x, "!t0(_,_)", 0, 1);
        Check.due("no variable", 0, () -> x.count(9));
        for (String sign : new String[] {"<", "=", "#"}) {
            due("_" + sign + "1", 0);
            due("1" + sign + "_", 2);
        }
        due("_:1+1", 0);
        for (String sign : new String[] {"+", "-", "*"}) {
            due("A:_" + sign + "1", 2);
            due("A:1" + sign + "_", 4);
        }
    }

    // "a VARIABLE that no GOAL ahead makes known in < = # or behind :"
    private static void variablesThatAreNotKnown() {
        for (String sign : new String[] {"<", "=", "#"}) {
            due("B" + sign + "1", 0);
            due("1" + sign + "B", 2);
            due("t1(A),B" + sign + "A", 6);
            due("t1(A),A" + sign + "B", 8);
            due("t1(A), B " + sign + " B", 7);
            due("B" + sign + "1,t1(B)", 0);
            due("!t1(B),B" + sign + "1", 7);
            due("!t1(B),1" + sign + "B", 9);
        }
        for (String sign : new String[] {"+", "-", "*"}) {
            due("A:B" + sign + "1", 2);
            due("A:1" + sign + "B", 4);
            due("A:A" + sign + "1", 2);
            due("A:1" + sign + "A", 4);
            due("A : B " + sign + " 1", 4);
            due("!t1(B),A:B" + sign + "1", 9);
            due("!t1(B),A:1" + sign + "B", 11);
            due("A:1" + sign + "B,t1(B)", 4);
        }
    }

    // "or that is known ahead of :"
    private static void variablesThatAreKnown() {
        due("t1(A),A:1+1", 6);
        due("t1(A), A : 1+1", 7);
        due("A:1+1,A:1+1", 6);
        due("t0(B,A),A:B+1", 8);
        due("A:1+1,B:A+A,A:B+B", 12);
        due("!t1(A),A:1+1", STANDS);
        due("!t1(A),A:1+1,A:1+1", 13);
        due("A:1+1,t1(A)", STANDS);
        due("A:1+1,A<3,A=A,A#A", STANDS);
        due("t1(A),B:A+A,C:B-A,D:C*C", STANDS);
    }

    // "one that stands twice: the same"
    private static void variablesThatStandTwice() {
        FactKeeper x = empty();
        Check.behind(x, 2, 1, 2, 1, 2);
        Check.behind(x, 2, 1, 2, 2, 1);
        Check.behind(x, 2, 1, 1, 1, 1);
        Check.behind(x, 2, 1, 1, 1, 2);
        Check.solved(x, "t2(A,B,A,B)", 2, 4);
        Check.solved(x, "t2(A,B,B,A)", 2, 4);
        Check.solved(x, "t2(A,A,A,A)", 1, 4);
        Check.solved(x, "t2(A,A,A,_)", 2, 4);
        Check.solved(x, "t2(_,A,_,A)", 2, 4);
        Check.solved(x, "!t2(A,A,A,A)", 0, 3);
        Check.solved(x, "!t2(A,_,2,A)", 0, 2);
        Check.solved(x, "!t2(A,A,2,_)", 1, 4);
        Check.solved(x, "t2(A,_,_,A),t2(A,A,_,B)", 4, 4 + 8);
    }

    // "if there is none such (new VARIABLES in it are not known behind it; looked for up to the first one)"
    private static void noneSuch() {
        FactKeeper x = empty();
        Check.solved(x, "!t1(A)", 1, 0);
        Check.due("no variable", 0, () -> x.count(9));
        Check.thrown("not in it", IndexOutOfBoundsException.class, () -> x.solution(0, 0));
        Check.behind(x, 1, 5);
        Check.behind(x, 1, 6);
        Check.behind(x, 1, 7);
        Check.solved(x, "!t1(A)", 0, 1);
        Check.solved(x, "!t1(6)", 0, 2);
        Check.solved(x, "!t1(8)", 1, 3);
        Check.solved(x, "t1(A),B:A+1,!t1(B)", 1, 3 + 2 + 3 + 3);
        Check.due("the last alone", 7, () -> x.solution(0, 0));
        Check.solved(x, "!t0(A,_),t1(A)", 3, 3);
        Check.due("known by t1", 1, () -> x.count(9));
        Check.solved(x, "!t0(A,B),!t0(B,A),t1(B),A:B*2", 3, 3);
        Check.due("A and B", 2, () -> x.count(9));
        Check.values(x, 6);
        x.remove(1, 1, 0);
        Check.solved(x, "!t1(6)", 1, 3);
        Check.due("before it went", 0, () -> Check.ask(x, "!t1(6)", 3));
    }

    // "ARG < ARG, ARG = ARG, ARG # ARG (not the same): if it is so"
    private static void signs() {
        FactKeeper x = empty();
        Check.behind(x, 0, MOST, LEAST);
        String[] so = {"B<A", "A=A", "B=B", "A#B", "B#A", "-1<A", "B<-1", "B<0", "0<A", "1<2", "-2<-1", "2=2", "1#-1"};
        String[] notSo = {"A<B", "A<A", "B<B", "A=B", "A#A", "B#B", "A<-1", "0<B", "2<1", "2<2", "-1<-2", "1=-1"};
        for (String sign : so) {
            Check.solved(x, "t0(A,B)," + sign, 1, 1);
        }
        for (String sign : notSo) {
            Check.solved(x, "t0(A,B)," + sign, 0, 1);
        }
    }

    // "the new VARIABLE is that (an int that wraps)"
    private static void sumsThatWrap() {
        FactKeeper x = empty();
        Check.behind(x, 0, MOST, LEAST);
        Check.solved(x, "t0(A,B),C:A+1,D:B-1,E:B*-1,F:A*A,G:B-A,H:B+B", 1, 1);
        int[] due = {MOST, LEAST, LEAST, MOST, LEAST, 1, 1, 0};
        for (int k = 0; k < 8; k++) {
            int asked = k;
            Check.due("variable " + k, due[k], () -> x.solution(0, asked));
        }
        Check.solved(x, "t0(A,B),C:A+A,D:A*2,E:0-B,F:-1-A,G:999999999*999999999,H:-999999999-999999999", 1, 1);
        int[] more = {MOST, LEAST, -2, -2, LEAST, LEAST, 999999999 * 999999999, -1999999998};
        for (int k = 0; k < 8; k++) {
            int asked = k;
            Check.due("variable " + k, more[k], () -> x.solution(0, asked));
        }
        Check.solved(x, "t0(A,B),C:A+1,t0(_,C),D:C-1,t0(D,_)", 1, 3);
    }

    // "Blanks between where one likes (not within numbers, nor behind t)"
    private static void blanksWhereOneLikes() {
        FactKeeper x = empty();
        Check.behind(x, 0, 12, -3);
        Check.solved(x, "t0(12,-3),!t1(A),A:-4+5,A<2", 1, 1);
        Check.solved(x, "   t0   (   12   ,   -3   )   ,   !   t1   (   A   )   ", 1, 1);
        Check.solved(x, "   A   :   -4   +   5   ,   A   <   2   ,   A   =   1   ", 1, 0);
        due("t 0(1,1)", 1);
        due("! t 0(1,1)", 3);
        due("t0 0(1,1)", 3);
        due("t0(1 2,1)", 5);
        due("1 2<3", 2);
        due("1<2 3", 4);
        due("A:1 2+3", 4);
        due("1<- 2", 2);
        due("1\t<2", 1);
        due("1<\n2", 2);
        due("1<2\u0000", 3);
        due("1<2\u00a0", 3);
    }

    // "each FACT .. in the ROW'S order"; "GOALS from the left, depth first"
    private static void depthFirstInTheRowsOrder() {
        FactKeeper x = empty();
        Check.behind(x, 1, 2);
        Check.ahead(x, 1, 1);
        Check.behind(x, 1, 3);
        x.index(0, 0);
        Check.behind(x, 0, 2, 5);
        Check.behind(x, 0, 1, 6);
        Check.ahead(x, 0, 2, 4);
        Check.solved(x, "t1(A),t1(B)", 9, 3 + 9);
        for (int i = 0; i < 9; i++) {
            int asked = i;
            Check.due("A of " + i, 1 + i / 3, () -> x.solution(asked, 0));
            Check.due("B of " + i, 1 + i % 3, () -> x.solution(asked, 1));
        }
        Check.solved(x, "t1(A),t0(A,B)", 3, 3 + 3);
        int[] due = {6, 4, 5};
        for (int i = 0; i < 3; i++) {
            int asked = i;
            Check.due("B of " + i, due[i], () -> x.solution(asked, 1));
        }
        Check.thrown("no 4th", IndexOutOfBoundsException.class, () -> x.solution(3, 1));
    }

    // "looked for as by a mask of all COLUMNS whose ARG is a number or a VARIABLE known ahead of the GOAL"
    private static void maskOfWhatIsKnownAhead() {
        FactKeeper x = empty();
        for (int i = 0; i < 6; i++) {
            Check.behind(x, 0, i % 2, i % 3);
        }
        x.index(0, 1);
        Check.solved(x, "t0(A,B)", 6, 6);
        Check.solved(x, "t0(1,B)", 3, 6);
        Check.solved(x, "t0(A,2)", 2, 2);
        Check.solved(x, "t0(1,2)", 1, 2);
        Check.solved(x, "t0(A,A)", 2, 6);
        Check.solved(x, "A:1+0,t0(A,A)", 1, 2);
        Check.solved(x, "A:1+0,t0(_,A)", 2, 2);
        Check.solved(x, "!t0(_,A),t0(A,_)", 0, 1);
        x.index(0, 0);
        Check.solved(x, "t0(A,2)", 2, 2);
        Check.solved(x, "t0(1,2)", 1, 3);
        Check.solved(x, "!t0(1,0)", 0, 2);
        Check.solved(x, "t0(7,2)", 0, 0);
        Check.solved(x, "t0(A,B),t0(B,A)", 4, 6 + 3 + 3 + 0 + 3 + 3 + 0);
    }

    private static void aTapeToTheBrim() {
        String stands = " ".repeat(200) + "1<2" + " ".repeat(197);
        due(stands, STANDS);
        due(" ".repeat(397) + "1<2", STANDS);
        due(" ".repeat(400), 400);
        due(" ".repeat(399) + "?", 399);
        due(" ".repeat(398) + "1<", 400);
        due(" ".repeat(399) + "t", 400);
        due(" ".repeat(398) + "t9", 398);
        due("1".repeat(400), 0);
        due("t".repeat(400), 1);
        due("t" + "9".repeat(399), 1);
        // What an earlier and longer tape had behind the end is not read.
        FactKeeper x = empty();
        Check.broken(x, "1<2,1<2,1<2,1<", 14);
        Check.broken(x, "1<", 2);
        Check.solved(x, "1<2", 1, 0);
    }

    // "more than 50000 LOOKED AT: ArithmeticException"
    private static void upTo50000LookedAt() {
        FactKeeper x = new FactKeeper();
        x.table(1);
        x.table(1);
        for (int i = 0; i < 36; i++) {
            x.add(0, 0);
        }
        x.add(1, 0);
        // 36 + 36 * 36 + 36 * 36 * 36 are 47988; QuestionTest has the very 50000.
        String three = "t0(A),t0(B),t0(C)";
        Check.solved(x, three, 46656, 47988);
        Check.due("the 100th", 0, () -> x.solution(99, 2));
        Check.thrown("36 * 36 * 36 more", ArithmeticException.class, () -> Check.ask(x, three + ",t1(D)"));
        Check.due("looked at", 50001, () -> x.count(5));
        Check.thrown("none such, as many", ArithmeticException.class, () -> Check.ask(x, three + ",!t1(7)"));
        Check.due("looked at", 50001, () -> x.count(5));
        Check.due("the latest that threw nothing has no D", 3, () -> x.count(9));
        Check.solved(x, "t0(A),t1(_),t0(B),t1(_)", 36 * 36, 36 + 36 + 36 * 36 + 36 * 36);
        Check.broken(x, "t0(A),t0(B),t0(C),t0(D),t0(E),", 30);
        Check.due("a broken one looks at nothing", 36 + 36 + 36 * 36 + 36 * 36, () -> x.count(5));
    }

    // "Solution i (of the first 100)"
    private static void theFirst100Solutions() {
        FactKeeper x = new FactKeeper();
        x.table(1);
        for (int i = 0; i < 100; i++) {
            Check.behind(x, 0, i);
        }
        Check.solved(x, "t0(A)", 100, 100);
        Check.due("the 1st", 0, () -> x.solution(0, 0));
        Check.due("the 100th", 99, () -> x.solution(99, 0));
        Check.thrown("no 101st", IndexOutOfBoundsException.class, () -> x.solution(100, 0));
        Check.solved(x, "t0(A),A<99", 99, 100);
        Check.due("the 99th", 98, () -> x.solution(98, 0));
        Check.thrown("no 100th any more", IndexOutOfBoundsException.class, () -> x.solution(99, 0));
        Check.solved(x, "t0(B),t0(C)", 10000, 10100);
        Check.due("C of the 100th", 99, () -> x.solution(99, 2));
        Check.due("B of the 100th", 0, () -> x.solution(99, 1));
        Check.thrown("the 101st is not kept", IndexOutOfBoundsException.class, () -> x.solution(100, 1));
        Check.thrown("no A any more", IndexOutOfBoundsException.class, () -> x.solution(0, 0));
        Check.solved(x, "t0(A),A<0", 0, 100);
        Check.thrown("no solution", IndexOutOfBoundsException.class, () -> x.solution(0, 0));
        for (int k : new int[] {-1, 8, LEAST, MOST}) {
            Check.thrown("variable " + k, IllegalArgumentException.class, () -> x.solution(0, k));
        }
    }
}
