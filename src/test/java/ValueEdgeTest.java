/** The edges of "Terms": values, between which numbers they lie, division by 0, and what else is an ERROR. */
public final class ValueEdgeTest {
    private static final int ERRORS = -3;
    private static final int NONE = -6;

    public static void main(String[] args) {
        numbersOfFacts();
        sums();
        differences();
        products();
        productsThatWrapAround();
        quotients();
        divisionByNought();
        errorsOnTheWay();
        comparisonsAtTheEdge();
        upToTheFirstThatIsFalse();
        Bench.close();
    }

    /** Token 0 for root 1 has p(a,b). */
    private static Bench with(int a, int b) {
        Bench bench = new Bench().block("p(" + a + "," + b + ")");
        bench.issue(1);
        return bench;
    }

    /** With p(A,B) = p(a,b), the sum has this value on the left side of a comparison and on its right side. */
    private static void is(String sum, int a, int b, int value) {
        String name = sum + " with " + a + " and " + b;
        Bench bench = with(a, b).onDesk("e(" + value / 10 + "," + value % 10 + ")");
        Bench.due("-" + name, bench.desk("-p(A,B),e(C,D)," + sum + "#C*10+D"), 5);
        Bench.due("+" + name, bench.desk("+p(A,B),e(C,D),C*10+D=" + sum), 4);
        Bench.due(name + " is " + value, bench.authorize(0, 1), 1);
    }

    /** With p(A,B) = p(a,b), working the sum out is an ERROR on either side. */
    private static void fails(String sum, int a, int b) {
        String name = sum + " with " + a + " and " + b;
        Bench bench = with(a, b);
        for (String sign : new String[] {"<", ">", "=", "#"}) {
            bench.onDesk("+p(A,B)," + sum + sign + "1");
            Bench.due(name + " on the left of " + sign, bench.authorize(0, 1), ERRORS);
            bench.onDesk("+p(A,B),1" + sign + sum);
            Bench.due(name + " on the right of " + sign, bench.authorize(0, 1), ERRORS);
        }
    }

    private static void numbersOfFacts() {
        String[] texts = {"9999", "-9999", "0", "-0", "0000", "-0000", "0012", "-0012", "1", "-1"};
        int[] values = {9999, -9999, 0, 0, 0, 0, 12, -12, 1, -1};
        for (int i = 0; i < texts.length; i++) {
            Bench b = new Bench().block("p(" + texts[i] + ")", "q(0," + texts[i] + ")");
            b.issue(1);
            b.onDesk("+p(" + values[i] + "),q(0," + values[i] + ")");
            Bench.due("p(" + texts[i] + ") is p(" + values[i] + ")", b.authorize(0, 1), 0);
            Bench.due("its value", b.fact(0, 2), values[i]);
            Bench.due("its other value", b.fact(0, 3), 0);
            Bench.due("the second value", b.fact(1, 3), values[i]);
        }
    }

    /** "A sum [..] that is not from -99999 to 99999 [..] is an ERROR" */
    private static void sums() {
        is("A*10+B", 9999, 8, 99998);
        is("A*10+B", 9999, 9, 99999);
        fails("A*10+B", 9999, 10);
        fails("A*10+B", 9999, 9999);
        is("A*10+B", -9999, -8, -99998);
        is("A*10+B", -9999, -9, -99999);
        fails("A*10+B", -9999, -10);
        fails("A*10+B", -9999, -9999);
        is("B+A*10", 9999, 9, 99999);
        fails("B+A*10", 9999, 10);
    }

    /** "A [..] difference [..] that is not from -99999 to 99999 [..] is an ERROR" */
    private static void differences() {
        is("A*10-B", 9999, -8, 99998);
        is("A*10-B", 9999, -9, 99999);
        fails("A*10-B", 9999, -10);
        fails("A*10-B", 9999, -9999);
        is("A*10-B", -9999, 8, -99998);
        is("A*10-B", -9999, 9, -99999);
        fails("A*10-B", -9999, 10);
        fails("A*10-B", -9999, 9999);
        is("B-A*10", 9999, -9, -99999);
        fails("B-A*10", 9999, -10);
        is("0-(A*10+B)", 9999, 9, -99999);
        is("0-(A*10+B)", -9999, -9, 99999);
    }

    /** "A [..] product that is not from -99999 to 99999 [..] is an ERROR" */
    private static void products() {
        // 271 times 369 is 99999.
        is("A*B", 271, 369, 99999);
        is("A*B", -271, -369, 99999);
        is("A*B", -271, 369, -99999);
        is("A*B", 271, -369, -99999);
        fails("A*B", 250, 400);
        fails("A*B", -250, -400);
        fails("A*B", -250, 400);
        fails("A*B", 250, -400);
        fails("A*B", 9999, 9999);
        fails("A*B", -9999, 9999);
        is("A*B", 9999, 10, 99990);
        fails("A*B", 9999, 11);
        is("A*B", -9999, 0, 0);
        is("(A*10+9)*B", 9999, 1, 99999);
        is("(A*10+9)*B", 9999, -1, -99999);
        fails("(A*10+9)*B", 9999, 2);
        fails("(A*10+9)*B", 9999, -2);
    }

    /** Products that an int would have wrapped around to a number from -99999 to 99999. */
    private static void productsThatWrapAround() {
        // 99999 times 42950 is -10246 and 2 to the 32nd, 65536 times 65536 is 0 and that.
        fails("(A*10+9)*(B*10)", 9999, 4295);
        fails("(A*10+9)*(B*10)", 9999, -4295);
        fails("(A*10+6)*(B*10+6)", 6553, 6553);
        fails("(A*10-6)*(B*10-6)", -6553, -6553);
        fails("(A*10+9)*(B*10+9)", 9999, 9999);
        fails("(A*10-9)*(B*10+9)", -9999, 9999);
    }

    /** "quotients are rounded towards 0" */
    private static void quotients() {
        int[][] rows = {
            {7, 2, 3}, {-7, 2, -3}, {7, -2, -3}, {-7, -2, 3}, {1, 2, 0}, {-1, 2, 0}, {1, -2, 0}, {-1, -2, 0},
            {9999, 9999, 1}, {-9999, 9999, -1}, {9998, 9999, 0}, {-9998, 9999, 0}, {0, 1, 0}, {0, -1, 0},
            {6, 2, 3}, {-6, 2, -3}, {8, 3, 2}, {-8, 3, -2}, {9999, 1, 9999}, {9999, -1, -9999}, {-9999, -1, 9999},
        };
        for (int[] row : rows) {
            is("A/B", row[0], row[1], row[2]);
        }
        is("(A*10+9)/B", 9999, 1, 99999);
        is("(A*10+9)/B", 9999, -1, -99999);
        is("(A*10-9)/B", -9999, -1, 99999);
        is("(A*10+9)/B", 9999, 2, 49999);
        is("(A*10-9)/B", -9999, 2, -49999);
        is("A/(B*10+9)", 9999, 9999, 0);
    }

    /** "a division by 0, is an ERROR" */
    private static void divisionByNought() {
        for (int a : new int[] {0, 1, -1, 9999, -9999}) {
            fails("A/B", a, 0);
            fails("A/0", a, 1);
            is("A/B", a, 1, a);
            is("A/B", a, -1, -a);
        }
        fails("A/(B-B)", 3, 7);
        fails("A/(B/2)", 3, 1);
        fails("A/(B/2)", 3, -1);
        is("A/(B/2)", 3, 2, 3);
        fails("A/B/B", 3, 0);
        fails("0/A", 0, 1);
        fails("B/A*A", 0, 1);
    }

    /** What is worked out from left to right is an ERROR, even if what comes behind it would lead back. */
    private static void errorsOnTheWay() {
        fails("A*10+B-B", 9999, 10);
        is("A*10-B+B", 9999, 10, 99990);
        is("A*10+(B-B)", 9999, 10, 99990);
        fails("A*B/B", 250, 400);
        is("A/B*B", 400, 250, 250);
        fails("A*B-A*B", 250, 400);
        fails("0*(A*B)", 250, 400);
        fails("(A*B)*0", 250, 400);
        fails("0*(A/B)", 250, 0);
        fails("0/(A*B)", 250, 400);
        is("0*A/B", 250, 400, 0);
        fails("((((A*B))))", 250, 400);
    }

    private static void comparisonsAtTheEdge() {
        int[] values = {-99999, -99998, -1, 0, 1, 99998, 99999};
        for (int left : values) {
            for (int right : values) {
                compared(left, "<", right, left < right);
                compared(left, ">", right, left > right);
                compared(left, "=", right, left == right);
                compared(left, "#", right, left != right);
            }
        }
    }

    private static void compared(int left, String sign, int right, boolean holds) {
        Bench b = with(left / 10, left % 10).onDesk("q(" + right / 10 + "," + right % 10 + ")");
        b.desk("+p(A,B),q(C,D),A*10+B" + sign + "C*10+D");
        Bench.due(left + sign + right, b.authorize(0, 1), holds ? 0 : NONE);
    }

    /** "comparisons from left to right, up to the first that is false" */
    private static void upToTheFirstThatIsFalse() {
        String[] marks = {"z=", "?", "!", "+", "-"};
        int[] falseResults = {NONE, -4, -4, NONE, NONE};
        for (int i = 0; i < marks.length; i++) {
            String start = marks[i] + "p(A,B),";
            Bench b = with(250, 400);
            for (String error : new String[] {"A/0=1", "1=A/0", "A*B=1", "1#A*B"}) {
                b.onDesk(start + error);
                Bench.due(start + error, b.authorize(0, 1), ERRORS);
                b.onDesk(start + error + ",1<2");
                Bench.due(start + error + ",1<2", b.authorize(0, 1), ERRORS);
                b.onDesk(start + error + ",1>2");
                Bench.due(start + error + ",1>2", b.authorize(0, 1), ERRORS);
                b.onDesk(start + "1<2," + error);
                Bench.due(start + "1<2," + error, b.authorize(0, 1), ERRORS);
                b.onDesk(start + "1>2," + error);
                Bench.due(start + "1>2," + error, b.authorize(0, 1), falseResults[i]);
            }
        }
    }
}
