/** Promises 4, 5 and 6: what is a clause, clause, desk and clear. */
public final class ClauseTest {
    private static final String[] FACTS = {
        "p", " p ", "z", "a(0)", "p(1)", "p(9999)", "p(-9999)", "p(-0)", "p(0001)", "p(1,2)", "p(-1,-2)",
        "p ( 1 , -20 ) ", "  p(1,2)",
    };
    private static final String[] RULES = {
        "p=q", "p(1)=q", "p(A)=q(A)", "p(A,H)=q(H,A)", "p(A,A)=q(A)", "p(A,-7)=q(A)", "p=q,r,s", "p=q,r,s,1<2,3>2",
        "p(A)=q(A),A=1", "p=q*", "p=q,1<2*", "p=q(A),A<2 * ", "p(A)=q(B),r(A)", " p = q ( A ) , A # 1 * ",
    };
    private static final String[] BODIES = {
        "p", "p(A)", "p(A,B)", "p,q,r", "p,q,r,1<2,2<3", "p,1<2", "p,1=1", "p,1#1", "p,1>1", "p(A),A+1<A*2-3/A", "p*",
        "p(A),A<1*", "p(A),A<1*2*", "p(A),A<1*2", "p(A),(A)<1*", "p(A),((((A))))<1", "p(A),((((1))))=((((A))))",
        "p(A),(1)+(1)+(1)+(1)+(1)+(1)<A", "p(A),9999<A", "p(A),0000<A",
        " p ( A , B ) , A < ( B ) ", "p(A),A-1<1-A", "p(H),H<H", "p(A),A/0<1",
    };
    private static final String[] NOT_BODIES = {
        "", "*", ",", "P", "A", "1", "p,", ",p", "p q", "pq", "p(", "p()", "p)", "p(1", "p(1,", "p(1,)", "p(,1)",
        "p(1,2", "p(1,2,3)", "p(a)", "p(I)", "p(AB)", "p(A B)", "p(12345)", "p(1 2)", "p(- 2)", "p(--2)", "p(+2)",
        "p(-A)", "p(-)", "p((1))", "p(1+1)", "p,q,r,s", "p,1<2,1<2,1<2", "p,1<2,q", "1<2", "A<1", "p,A<1",
        "p(A),B<1", "p(A),1<B", "p(A),B<A", "p(A),A<B", "p(A),B<1,A<1",
        "p,1<2,1<2,", "p,q,r,", "p(A),1", "p(A),A", "p(A),A<", "p(A),<A", "p(A),A<1<2", "p(A),A<=1", "p(A),A==1",
        "p(A),A!1", "p(A),-1<A", "p(A),A<-1", "p(A),A<1-", "p(A),A<1+", "p(A),A<+1", "p(A),A<1/", "p(A),A</1",
        "p(A),A<*1", "p(A),A<1**", "p**", "p*q", "p(A)*,A<1", "p(A),A*<1", "p(A),A<(1*)", "p(A),A<(1*", "p(A),A<(1",
        "p(A),A<1)", "p(A),A<()", "p(A),A<(((((1)))))", "p(A),(((((A)))))<1", "p(A),A<12345", "p(A),A<1 2",
        "p(A),A<AA", "p(A),A<2A", "p(A),A<A2", "p(A),A<I", "p(A),A<a", "p(A),A<p(1)", "p(A),A<1;", "p;q", "p.",
        "p(A)A<1", "p(A),A<1,", "p(A),A<1 q", "?p", "p?", "p=q", "+p",
        "p(1)(2)", "p(A),A<((((1)))))", "p(A),A<(1)(2)", "p(A),A<1(2)", "p(A),A%2=1", "p[1]",
    };
    private static final String[] NOTHINGS = {
        "", " ", "                                        ", "P", "1", "A", "I", "(", "=", "p=", "=p", "p(A)", "p(1,A)",
        "p(A,1)", "p*", "p(1)*", "p*=q", "p=q=r", "p(A)=q", "p(A)=q(B)", "p(A,B)=q(A)", "p(A)=q(1),A<1", "p==q",
        "p,q", "p,1<2", "p 1", "p(1) q", "p(1)=q(A),B=1", "p=?q", "?", "!", "+", "-", "*", "-1", "?p(A)=q(A)",
        "p(1)=1", "p=1<2", "p(12345)", "p(- 2)", "p(1 2)", "p(-)", "pq", "p(I)", "~", "#p", "p#q", "p<q",
    };

    public static void main(String[] args) {
        whatIsAClause();
        whatIsNone();
        oneAfterTheOther();
        takingAClause();
        theOrderOfRefusals();
        theDesk();
        clearing();
        Bench.close();
    }

    private static void whatIsAClause() {
        for (String fact : FACTS) {
            accepts(fact, 0);
        }
        for (String rule : RULES) {
            accepts(rule, 1);
        }
        for (String body : BODIES) {
            accepts("?" + body, 2);
            accepts(" ! " + body, 3);
            accepts("+" + body, 4);
            accepts("-" + body, 5);
            accepts("z=" + body, 1);
        }
    }

    private static void accepts(String text, int kind) {
        Bench b = new Bench();
        Bench.due("desk of \"" + text + "\"", b.desk(text), kind);
        Bench.due("clause of \"" + text + "\"", b.clause(text), kind < 4 ? kind : Bench.UNSUPPORTED);
    }

    private static void whatIsNone() {
        for (String text : NOTHINGS) {
            refuses(text);
        }
        for (String body : NOT_BODIES) {
            refuses("?" + body);
            refuses("!" + body);
            refuses("+" + body);
            refuses("-" + body);
            refuses("z=" + body);
        }
    }

    private static void refuses(String text) {
        Bench b = new Bench();
        Bench.due("clause of \"" + text + "\"", b.clause(text), Bench.ARGUMENT);
        Bench.due("line after it", b.count(5), text.length());
        Bench.due("desk of \"" + text + "\"", b.desk(text), Bench.ARGUMENT);
        Bench.due("line after it", b.count(5), text.length());
        Bench.due("count(3) after it", b.count(3), 0);
        Bench.due("count(4) after it", b.count(4), 0);
    }

    private static void oneAfterTheOther() {
        Bench b = new Bench();
        Bench.due("with a variable", b.desk("q(A)=p(A),A<2"), 1);
        Bench.due("without it in the body", b.desk("q(A)=p"), Bench.ARGUMENT);
        Bench.due("without it in the body", b.desk("?p,A<2"), Bench.ARGUMENT);
        Bench.due("with another one", b.desk("q(B)=p(B),B<2"), 1);
        Bench.due("with none", b.desk("q=p"), 1);
        Bench.due("a fact", b.desk("p(1)"), 0);
        Bench.due("with a variable", b.desk("p(A)"), Bench.ARGUMENT);
        b.issue(1);
        Bench.due("without comparisons of others", b.desk("+q"), 4);
        Bench.due("authorize", b.authorize(0, 1), -6);
        Bench.due("a fact", b.desk("p"), 0);
        Bench.due("authorize", b.authorize(0, 1), 0);
    }

    private static void takingAClause() {
        Bench b = new Bench();
        String[] texts = {"p(1)", "q(A)=p(A)", "?p(A)", "!p(A),A>0", "r"};
        int[] kinds = {0, 1, 2, 3, 0};
        for (int i = 0; i < texts.length; i++) {
            Bench.due("clause of " + texts[i], b.clause(texts[i]), kinds[i]);
            Bench.due("the line then", b.count(5), 0);
            Bench.due("the block then", b.count(3), i + 1);
        }
        Bench.due("a sixth clause", b.clause("s"), Bench.STATE);
        Bench.due("the line stays", b.count(5), 1);
        Bench.due("the block stays", b.count(3), 5);
        Bench.due("the desk takes it", b.desk(), 0);
        b.issue(1);
        Bench.due("a new block", b.clause("s"), 0);
        Bench.due("the new block has", b.count(3), 1);
    }

    private static void theOrderOfRefusals() {
        Bench b = new Bench().block("a", "b", "c", "d", "e");
        Bench.due("no clause, and five are there", b.clause("?"), Bench.ARGUMENT);
        Bench.due("ALLOW, and five are there", b.clause("+p"), Bench.UNSUPPORTED);
        Bench.due("the line stays", b.count(5), 2);
        Bench.due("DENY, and five are there", b.clause("-p"), Bench.UNSUPPORTED);
        Bench.due("a FACT, and five are there", b.clause("p"), Bench.STATE);
        Bench.due("ALLOW that is none", b.clause("+p,"), Bench.ARGUMENT);
        Bench.due("the block stays", b.count(3), 5);
    }

    private static void theDesk() {
        Bench b = new Bench();
        String[] texts = {"p(1)", "q(A)=p(A)", "?p(A)", "!p(A)", "+p(A)", "-p(A)", "a", "b", "c", "d"};
        int[] kinds = {0, 1, 2, 3, 4, 5, 0, 0, 0, 0};
        for (int i = 0; i < texts.length; i++) {
            Bench.due("desk of " + texts[i], b.desk(texts[i]), kinds[i]);
            Bench.due("the line then", b.count(5), 0);
            Bench.due("the desk then", b.count(4), i + 1);
        }
        Bench.due("no clause, and ten are there", b.desk("p("), Bench.ARGUMENT);
        Bench.due("an eleventh clause", b.desk("+p"), Bench.STATE);
        Bench.due("the line stays", b.count(5), 2);
        Bench.due("the desk stays", b.count(4), 10);
        Bench.due("the block stays", b.count(3), 0);
    }

    private static void clearing() {
        Bench b = new Bench().block("a(1)", "a(2)");
        b.issue(1);
        b.block("b").onDesk("p", "+p");
        b.type("xy");
        Bench.due("before clear()", b.authorize(0, 1), 0);
        b.clear();
        Bench.due("the desk is empty", b.count(4), 0);
        Bench.due("the line stays", b.count(5), 2);
        Bench.due("the block stays", b.count(3), 1);
        Bench.same("the latest facts stay", b.facts(), "a(1)@1 a(2)@1 p@16");
        Bench.due("the latest result stays", b.latest(0), 0);
        Bench.due("after clear()", b.authorize(0, 1), -6);
        Bench.same("facts without the desk", b.facts(), "a(1)@1 a(2)@1");
        b.clear();
        for (int i = 0; i < 10; i++) {
            Bench.due("ten clauses again", b.desk("-a(2)"), 5);
        }
        Bench.due("the new desk", b.authorize(0, 1), -5);
    }
}
