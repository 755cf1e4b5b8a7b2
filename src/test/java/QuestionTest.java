/** Promises 21 and 22: question, solution. */
public final class QuestionTest {
    public static void main(String[] args) {
        goals();
        negations();
        sums();
        blanks();
        times();
        indexes();
        whatCanNotStand();
        numbersThatCanNotStand();
        argsAndGoalsTooMany();
        unknownVariables();
        tooManyLookedAt();
        solutions();
        wrongTimes();
        Check.finish("QuestionTest");
    }

    /** t0 of two columns: 1 2, 2 3, 3 1, 1 1, 3 3; t1 of one: 1, 3; t2 of four: nothing. */
    private static FactKeeper filled() {
        FactKeeper x = new FactKeeper();
        x.table(2);
        x.table(1);
        x.table(4);
        Check.behind(x, 0, 1, 2);
        Check.behind(x, 0, 2, 3);
        Check.behind(x, 0, 3, 1);
        Check.behind(x, 0, 1, 1);
        Check.behind(x, 0, 3, 3);
        Check.behind(x, 1, 1);
        Check.behind(x, 1, 3);
        return x;
    }

    private static void goals() {
        FactKeeper x = filled();
        Check.solved(x, "t0(A,B)", 5, 5);
        Check.solved(x, "t0(1,_)", 2, 5);
        Check.solved(x, "t0(_,_)", 5, 5);
        Check.due("no variables", 0, () -> x.count(9));
        Check.solved(x, "t0(A,A)", 2, 5);
        Check.solved(x, "t0(A,B),t0(B,C),t1(C)", 7, 5 + 25 + 9 * 2);
        Check.solved(x, "t1(A),t0(A,A)", 2, 12);
        Check.solved(x, "t2(A,B,C,D)", 0, 0);
        Check.solved(x, "t0(A,B),A<B", 2, 5);
        Check.solved(x, "t0(A,B),A=B", 2, 5);
        Check.solved(x, "t0(A,B),A#B", 3, 5);
        Check.solved(x, "1<2", 1, 0);
        Check.solved(x, "-1<-2", 0, 0);
        Check.solved(x, "2<2", 0, 0);
        Check.solved(x, "5=5,5#6", 1, 0);
        Check.solved(x, "t01(A)", 2, 2);
    }

    private static void negations() {
        FactKeeper x = filled();
        Check.solved(x, "!t0(A,A)", 0, 4);
        Check.solved(x, "!t0(1,3)", 1, 5);
        Check.solved(x, "!t0(A,_),t1(A)", 0, 1);
        Check.solved(x, "!t0(A,7),t1(A)", 2, 5 + 2);
        Check.due("known by t1", 1, () -> x.count(9));
        Check.solved(x, "!t0(A,7),A:1+1", 1, 5);
        Check.solved(x, "t0(A,B),!t0(B,A)", 3, 5 + 5 + 5 + 5 + 4 + 5);
        Check.solved(x, "t1(A),!t0(B,A)", 0, 2 + 3 + 2);
        Check.broken(x, "!t0(A,7),A<3", 9);
    }

    private static void sums() {
        FactKeeper x = filled();
        Check.solved(x, "A:999999999*999999999,B:A+A,C:0-5,D:-5--5,E:C-1", 1, 0);
        int[] due = {999999999 * 999999999, 2 * (999999999 * 999999999), -5, 0, -6};
        for (int k = 0; k < due.length; k++) {
            int asked = k;
            Check.due("sum " + k, due[k], () -> x.solution(0, asked));
        }
        Check.solved(x, "H:3-4", 1, 0);
        Check.due("H", -1, () -> x.solution(0, 7));
        Check.due("variables", 1, () -> x.count(9));
        Check.solved(x, "t1(A),B:A*10,C:B+A,C#11", 1, 2);
        Check.due("C", 33, () -> x.solution(0, 2));
    }

    private static void blanks() {
        FactKeeper x = filled();
        Check.solved(x, "  ! t0 ( 7 , _ ) , A : -1 + 2 , A < 3 , t1 ( A )  ", 1, 7);
        Check.broken(x, "t 0(A,B)", 1);
        Check.broken(x, "t0(A,- 1)", 5);
        Check.broken(x, "t0(1 2,A)", 5);
        Check.broken(x, "1 2<3", 2);
        Check.broken(x, "   ", 3);
        Check.broken(x, "t0(A,\tB)", 5);
        Check.broken(x, "", 0);
    }

    private static void times() {
        FactKeeper x = filled();
        x.remove(0, 0, 1);
        Check.due("then", 5, () -> Check.ask(x, "t0(A,B)", 7));
        Check.due("looked at", 5, () -> x.count(5));
        Check.due("earlier", 2, () -> Check.ask(x, "t0(A,B)", 2));
        Check.due("before", 0, () -> Check.ask(x, "t0(A,B)", 0));
        Check.due("now", 0, () -> Check.ask(x, "t0(A,B)", -1));
        Check.due("looked at", 5, () -> x.count(5));
    }

    private static void indexes() {
        FactKeeper x = filled();
        x.index(0, 1);
        Check.solved(x, "t0(1,1)", 1, 2);
        Check.solved(x, "t0(A,B)", 5, 5);
        Check.solved(x, "t1(A),t0(_,A)", 4, 2 + 2 + 2);
        Check.solved(x, "!t0(1,1)", 0, 2);
        Check.solved(x, "t0(A,A)", 2, 5);
        x.index(0, 0);
        Check.solved(x, "t0(2,1)", 0, 1);
        Check.solved(x, "!t0(7,1)", 1, 0);
    }

    private static void whatCanNotStand() {
        FactKeeper x = filled();
        Check.broken(x, "t0", 2);
        Check.broken(x, "t", 1);
        Check.broken(x, "t(A)", 1);
        Check.broken(x, "t-1(A)", 1);
        Check.broken(x, "t3(A)", 0);
        Check.broken(x, "t0(A,B), t12(A", 9);
        Check.broken(x, "t0(1,2), ! t99", 11);
        Check.broken(x, "!", 1);
        Check.broken(x, "!!t0(A,B)", 1);
        Check.broken(x, "!A<3", 1);
        Check.broken(x, "t0[A,B)", 2);
        Check.broken(x, "t0(A;B)", 4);
        Check.broken(x, "t0(A,B", 6);
        Check.broken(x, "t0(A,B)t1(A)", 7);
        Check.broken(x, "t0(A,B),", 8);
        Check.broken(x, "t0(A,B),  ", 10);
        Check.broken(x, ",t0(A,B)", 0);
        Check.broken(x, "t0(I,A)", 3);
        Check.broken(x, "t0(a,A)", 3);
        Check.broken(x, "_<3", 0);
        Check.broken(x, "3<_", 2);
        Check.broken(x, "A:_+1", 2);
        Check.broken(x, "3:1+1", 1);
        Check.broken(x, "3", 1);
        Check.broken(x, "A", 1);
        Check.broken(x, "A?", 1);
        Check.broken(x, "A:1", 3);
        Check.broken(x, "A:1<2", 3);
        Check.broken(x, "A:1/2", 3);
        Check.broken(x, "A:1+", 4);
        Check.broken(x, "1>2", 1);
        Check.broken(x, "1==2", 2);
        Check.broken(x, "1<2<3", 3);
        Check.broken(x, "A:1+2+3", 5);
    }

    private static void numbersThatCanNotStand() {
        FactKeeper x = filled();
        Check.solved(x, "-999999999<999999999", 1, 0);
        Check.solved(x, "000000001=1", 1, 0);
        Check.broken(x, "1<1234567890", 2);
        Check.broken(x, "0000000001=1", 0);
        Check.broken(x, "1<-1234567890", 2);
        Check.broken(x, "1<-", 2);
        Check.broken(x, "--1<1", 0);
        Check.broken(x, "A:1---1", 4);
        Check.broken(x, "t0(-A,1)", 3);
        Check.broken(x, "t0(1,99999999999999999999)", 5);
    }

    private static void argsAndGoalsTooMany() {
        FactKeeper x = filled();
        Check.broken(x, "t0(A)", 4);
        Check.broken(x, "t0( A )", 6);
        Check.broken(x, "t0()", 3);
        Check.broken(x, "t0(A,)", 5);
        Check.broken(x, "t0(A,B, C)", 8);
        Check.broken(x, "t0(A,B,)", 7);
        Check.broken(x, "t1(A,", 5);
        String ten = "1<2,1<2,1<2,1<2,1<2,1<2,1<2,1<2,1<2,1<2";
        Check.solved(x, ten, 1, 0);
        Check.solved(x, ten + "  ", 1, 0);
        Check.broken(x, ten + ",  1<2", 42);
        Check.broken(x, ten + ",", 40);
        Check.broken(x, ten + "?", 39);
    }

    private static void unknownVariables() {
        FactKeeper x = filled();
        Check.broken(x, "A<3", 0);
        Check.broken(x, "A<?", 0);
        Check.broken(x, "3=B", 2);
        Check.broken(x, "A#B", 0);
        Check.broken(x, "A:A+1", 2);
        Check.broken(x, "A:1*B", 4);
        Check.broken(x, "t1(A), A : 1+1", 7);
        Check.broken(x, "t1(A), A : ?", 7);
        Check.broken(x, "A:1+1,A:1+1", 6);
        Check.broken(x, "t1(A), A ?", 9);
        Check.broken(x, "t1(A),B<A,t1(B)", 6);
    }

    private static void tooManyLookedAt() {
        FactKeeper x = new FactKeeper();
        int[] facts = {50, 27, 36, 1};
        for (int t = 0; t < facts.length; t++) {
            x.table(1);
            for (int i = 0; i < facts[t]; i++) {
                Check.behind(x, t, i);
            }
        }
        Check.solved(x, "t3(A)", 1, 1);
        // 50 + 50 * 27 + 50 * 27 * 36 are 50000.
        Check.solved(x, "t0(A),t1(B),t2(C)", 48600, 50000);
        Check.broken(x, "?", 0);
        for (String text : new String[] {"!t3(5),t0(A),t1(B),t2(C)", "t0(A),t1(B),t2(C),t3(D)"}) {
            Check.thrown(text, ArithmeticException.class, () -> Check.ask(x, text));
            Check.due(text + " looked at", 50001, () -> x.count(5));
            Check.due(text + " is not broken", -1, () -> x.count(6));
            Check.due(text + " leaves the tape empty", 0, () -> x.count(0));
            Check.due(text + " is not the latest", 3, () -> x.count(9));
        }
        Check.due("the latest that threw nothing", 35, () -> x.solution(35, 2));
    }

    private static void solutions() {
        FactKeeper x = new FactKeeper();
        x.table(2);
        for (int i = 0; i < 101; i++) {
            Check.behind(x, 0, i, -i);
        }
        Check.due("101", 101, () -> Check.ask(x, "t0(C,A)"));
        for (int i = 0; i < 100; i++) {
            int asked = i;
            Check.due("solution " + i, i, () -> x.solution(asked, 2));
        }
        Check.due("of the other column", -99, () -> x.solution(99, 0));
        Check.thrown("the 101st", IndexOutOfBoundsException.class, () -> x.solution(100, 2));
        Check.thrown("-1", IndexOutOfBoundsException.class, () -> x.solution(-1, 2));
        Check.thrown("B is not in it", IndexOutOfBoundsException.class, () -> x.solution(0, 1));
        Check.thrown("no variable 8", IllegalArgumentException.class, () -> x.solution(0, 8));
        Check.thrown("no variable before none such", IllegalArgumentException.class, () -> x.solution(-1, -1));
        Check.broken(x, "t0(D,E),", 8);
        Check.thrown("too many", ArithmeticException.class, () -> Check.ask(x, "t0(D,E),t0(F,G),t0(H,B)"));
        Check.due("the latest that threw nothing", 7, () -> x.solution(7, 2));
        Check.due("its variables", 2, () -> x.count(9));
        Check.thrown("not of one that threw", IndexOutOfBoundsException.class, () -> x.solution(0, 3));
        Check.due("none", 0, () -> Check.ask(x, "t0(A,A),A#0"));
        Check.thrown("of none", IndexOutOfBoundsException.class, () -> x.solution(0, 0));
        Check.due("its variables", 1, () -> x.count(9));
    }

    private static void wrongTimes() {
        FactKeeper x = filled();
        x.remove(1, 0, 0);
        x.purge(3);
        Check.broken(x, "?", 0);
        for (int at : new int[] {-2, 2, 9}) {
            Check.write(x, "t1(A)");
            Check.thrown("question " + at, IllegalArgumentException.class, () -> x.question(at));
            Check.due("the tape is empty", 0, () -> x.count(0));
            Check.due("not broken", -1, () -> x.count(6));
        }
        Check.due("at the horizon", 3, () -> Check.ask(x, "t0(A,B)", 3));
        Check.due("at the time", 1, () -> Check.ask(x, "t1(A)", 8));
    }
}
