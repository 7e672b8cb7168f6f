/** Promises 1, 2, 3 and 16: a new object, type, wipe and count. */
public final class LineTest {
    public static void main(String[] args) {
        aNewObject();
        limitsOfANewObject();
        typing();
        wiping();
        counting();
        Bench.close();
    }

    private static void aNewObject() {
        Bench b = new Bench();
        int[] counts = {0, 0, 3, 0, 0, 0};
        for (int what = 0; what < counts.length; what++) {
            Bench.due("new: count(" + what + ")", b.count(what), counts[what]);
        }
        for (int what = -1; what < 6; what++) {
            Bench.due("new: latest(" + what + ")", b.latest(what), 0);
        }
        Bench.due("new: fact(0, 0)", b.fact(0, 0), Bench.INDEX);
        Bench.due("new: token(0, 0)", b.token(0, 0), Bench.INDEX);
        Bench.due("new: clause()", b.clause(), Bench.ARGUMENT);
        Bench.due("new: desk()", b.desk(), Bench.ARGUMENT);
    }

    private static void limitsOfANewObject() {
        Bench thirty = new Bench().block("p(1)", "p(2)", "p(3)", "p(4)", "p(5)");
        thirty.onDesk("p(6)", "q(A,B)=p(A),p(B),A<5,B<7");
        // 6 facts and 4 times 6 pairs: 30.
        thirty.issue(1);
        Bench.due("30 facts", thirty.authorize(0, 1), -6);
        Bench.due("30 facts: latest(1)", thirty.latest(1), 30);
        thirty.desk("r");
        Bench.due("31 facts", thirty.authorize(0, 1), -2);

        Bench ten = new Bench().block("n(1)", "s(1,2)", "s(2,3)", "s(3,4)", "s(4,5)");
        ten.issue(1);
        ten.onDesk("s(5,6)", "s(6,7)", "s(7,8)", "s(8,9)", "s(9,10)", "n(B)=n(A),s(A,B)*");
        Bench.due("10 rounds", ten.authorize(0, 1), -6);
        Bench.due("10 rounds: latest(2)", ten.latest(2), 10);
        ten.desk("s(10,11)");
        Bench.due("11 rounds", ten.authorize(0, 1), -2);
        Bench.due("11 rounds: latest(2)", ten.latest(2), 10);
    }

    private static void typing() {
        Bench b = new Bench();
        for (int c : new int[] {0, 9, 10, 31, 127, 128, 255, 256, 0x2070, 0xffff}) {
            Bench.due("type(" + c + ")", b.type((char) c), 0);
        }
        Bench.due("refused: count(5)", b.count(5), 0);
        for (int c = 32; c <= 71; c++) {
            Bench.due("type(" + c + ")", b.type((char) c), 1);
            Bench.due("typed: count(5)", b.count(5), c - 31);
        }
        Bench.due("the 41st character", b.type('a'), 0);
        Bench.due("full: count(5)", b.count(5), 40);
        b.wipe();
        for (int c = 72; c <= 126; c++) {
            b.wipe();
            Bench.due("type(" + c + ")", b.type((char) c), 1);
        }
        Bench parts = new Bench();
        parts.type("p(1");
        Bench.due("half a clause", parts.clause(), Bench.ARGUMENT);
        Bench.due("half a clause stays", parts.count(5), 3);
        parts.type(")");
        Bench.due("the clause's other half", parts.clause(), 0);
        Bench.due("line of forty", parts.clause("p(1)                                    "), 0);
        Bench.due("41st is not there", parts.type("p(1)                                    q"), 40);
        Bench.due("line of forty again", parts.clause(), 0);
    }

    private static void wiping() {
        Bench b = new Bench();
        b.wipe();
        Bench.due("wipe of nothing", b.count(5), 0);
        b.type("?????");
        b.wipe();
        Bench.due("wiped: count(5)", b.count(5), 0);
        Bench.due("wiped: clause()", b.clause(), Bench.ARGUMENT);
        b.type("p");
        Bench.due("nothing of the old line", b.clause(), 0);
        b.type("q(12345");
        b.wipe();
        b.type("q(");
        Bench.due("nothing behind the new line", b.clause(), Bench.ARGUMENT);
    }

    private static void counting() {
        Bench b = new Bench().block("p", "q").onDesk("p", "q", "+r");
        b.type("abcd");
        int[] before = {0, 0, 3, 2, 3, 4};
        for (int what = 0; what < before.length; what++) {
            Bench.due("count(" + what + ")", b.count(what), before[what]);
        }
        b.issue(2);
        b.append(0);
        b.seal(1);
        b.tamper(1, 4, 0, 0);
        int[] after = {4, 2, 6, 0, 3, 4};
        for (int what = 0; what < after.length; what++) {
            Bench.due("count(" + what + ") then", b.count(what), after[what]);
        }
        for (int what : new int[] {-1, 6, 7, 100, Integer.MIN_VALUE, Integer.MAX_VALUE}) {
            Bench.due("count(" + what + ")", b.count(what), -1);
        }
    }
}
