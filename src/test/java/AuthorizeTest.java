/** Promises 11 to 14: limits, authorize, latest and fact. */
public final class AuthorizeTest {
    private static final int BAD = -1;
    private static final int LIMIT = -2;
    private static final int ERRORS = -3;
    private static final int CHECKS = -4;
    private static final int DENY = -5;
    private static final int NONE = -6;

    public static void main(String[] args) {
        settingLimits();
        tooManyFacts();
        tooManyRounds();
        refusedAuthorizing();
        policies();
        factsAndOrigins();
        trust();
        bindings();
        roundsAllAtOnce();
        calculating();
        comparing();
        errorsOfRules();
        errorsOfChecks();
        errorsOfPolicies();
        checks();
        numbersOfChecks();
        orderOfFacts();
        wrongQuestions();
        latestStays();
        latestDoesNotLast();
        Bench.close();
    }

    /** A token 0 for root 1 with one block, and this desk: what authorize() answers. */
    private static Bench with(String[] block, String... desk) {
        Bench b = new Bench().block(block);
        b.issue(1);
        return b.onDesk(desk);
    }

    private static String[] block(String... texts) {
        return texts;
    }

    private static void latest(String what, Bench b, int result, int facts, int rounds, int unfulfilled) {
        Bench.due(what, b.authorize(0, 1), result);
        Bench.due(what + ": latest(0)", b.latest(0), result);
        Bench.due(what + ": latest(1)", b.latest(1), facts);
        Bench.due(what + ": latest(2)", b.latest(2), rounds);
        Bench.due(what + ": latest(3)", b.latest(3), unfulfilled);
        Bench.due(what + ": no fact behind the last", b.fact(facts, 0), Bench.INDEX);
    }

    private static void settingLimits() {
        Bench b = with(block("p(1)", "p(2)", "q(A)=p(A)"));
        int[][] wrong = {{0, 1}, {31, 1}, {1, 0}, {1, 13}, {-1, 5}, {5, -1}, {0, 0}, {31, 13},
            {Integer.MIN_VALUE, 1}, {Integer.MAX_VALUE, 1}, {1, Integer.MIN_VALUE}, {1, Integer.MAX_VALUE}};
        for (int[] w : wrong) {
            Bench.due("limits(" + w[0] + ", " + w[1] + ")", b.limits(w[0], w[1]), 0);
            latest("refused limits", b, NONE, 4, 2, 0);
        }
        for (int[] r : new int[][] {{1, 1}, {30, 12}, {1, 12}, {30, 1}, {4, 2}}) {
            Bench.due("limits(" + r[0] + ", " + r[1] + ")", b.limits(r[0], r[1]), 1);
        }
        latest("just enough", b, NONE, 4, 2, 0);
        Bench.due("refused", b.limits(30, 13), 0);
        Bench.due("refused", b.limits(3, 0), 0);
        latest("still just enough", b, NONE, 4, 2, 0);
    }

    private static void tooManyFacts() {
        Bench b = with(block("p(1)", "p(2)", "q(A)=p(A)"), "r=q(2)");
        b.limits(5, 12);
        latest("five facts of five", b, NONE, 5, 3, 0);
        b.limits(4, 12);
        latest("too many after round 2", b, LIMIT, 0, 2, 0);
        b.limits(3, 12);
        latest("too many after round 1", b, LIMIT, 0, 1, 0);
        b.limits(2, 12);
        latest("two at the beginning", b, LIMIT, 0, 1, 0);
        b.limits(1, 12);
        latest("too many at the beginning", b, LIMIT, 0, 0, 0);
        b.limits(4, 2);
        latest("MOST is looked at first, and MORE", b, LIMIT, 0, 2, 0);
        Bench twice = with(block("p(1)", "p(1)", "p(1)"), "p(1)", "p(1)");
        twice.limits(2, 1);
        latest("the same fact counts once", twice, NONE, 2, 1, 0);
        Bench many = with(block("p(1)", "p(2)", "p(3)", "p(4)"), "p(5)", "p(6)", "q(A,B)=p(A),p(B)", "+p(1)");
        latest("42 facts", many, LIMIT, 0, 1, 0);
    }

    private static void tooManyRounds() {
        Bench b = with(block("p(1)", "q(A)=p(A)", "r(A)=q(A)", "s(A)=r(A)"), "+p(1)");
        int[] results = {LIMIT, LIMIT, LIMIT, 0, 0};
        for (int more = 1; more <= 5; more++) {
            b.limits(30, more);
            int result = results[more - 1];
            latest("MORE is " + more, b, result, result == 0 ? 4 : 0, Math.min(more, 4), 0);
        }
        Bench still = with(block("p(1)"));
        still.limits(30, 1);
        latest("one round is enough for nothing new", still, NONE, 1, 1, 0);
        Bench twelve = with(block("n(1)", "s(1,2)", "s(2,3)", "s(3,4)", "s(4,5)"),
            "s(5,6)", "s(6,7)", "s(7,8)", "s(8,9)", "s(9,10)", "s(10,11)", "s(11,12)", "n(B)=n(A),s(A,B)");
        twelve.limits(30, 12);
        latest("twelve rounds", twelve, NONE, 24 - 1, 12, 0);
        twelve.limits(30, 11);
        latest("eleven rounds", twelve, LIMIT, 0, 11, 0);
    }

    private static void refusedAuthorizing() {
        Bench b = with(block("p"), "+p");
        b.authorize(0, 1);
        for (int token : new int[] {Integer.MIN_VALUE, -1, 1, 16, Integer.MAX_VALUE}) {
            Bench.due("authorize(" + token + ", 1)", b.authorize(token, 1), Bench.INDEX);
            Bench.due("authorize(" + token + ", 0)", b.authorize(token, 0), Bench.INDEX);
        }
        for (int root : new int[] {Integer.MIN_VALUE, -1, 0, 4, Integer.MAX_VALUE}) {
            Bench.due("authorize(0, " + root + ")", b.authorize(0, root), Bench.ARGUMENT);
        }
        Bench.same("the latest stays", b.facts(), "p@1");
        Bench.due("the latest stays", b.latest(2), 1);
        Bench.due("BAD", b.authorize(0, 2), BAD);
        int[] answers = {BAD, 0, 0, 0, 0};
        for (int what = 0; what < answers.length; what++) {
            Bench.due("BAD: latest(" + what + ")", b.latest(what), answers[what]);
        }
        Bench.due("BAD: fact(0, 0)", b.fact(0, 0), Bench.INDEX);
        Bench.due("refused after BAD", b.authorize(0, 4), Bench.ARGUMENT);
        Bench.due("BAD stays", b.latest(0), BAD);
        latest("and right again", b, 0, 1, 1, 0);
    }

    private static void policies() {
        latest("no policy", with(block("p")), NONE, 1, 1, 0);
        latest("no policy that holds", with(block("p"), "+q", "-r"), NONE, 1, 1, 0);
        latest("the first ALLOW", with(block("p"), "+p", "-p"), 0, 1, 1, 0);
        latest("the first DENY", with(block("p"), "-p", "+p"), DENY, 1, 1, 0);
        latest("number among ALLOW and DENY", with(block("p"), "q", "+r", "?p", "-r", "s=q", "+p"), 2, 3, 2, 0);
        latest("the tenth", with(block("p"), "-q", "-q", "-q", "-q", "-q", "-q", "-q", "-q", "-q", "+p"), 9, 1, 1, 0);
        latest("one binding is enough", with(block("p(1)", "p(2)"), "+p(A),A>1"), 0, 2, 1, 0);
        latest("one binding is enough to deny", with(block("p(1)", "p(2)"), "-p(A),A>1", "+p(1)"), DENY, 2, 1, 0);
        latest("DENY with no binding", with(block("p(1)", "p(2)"), "-p(A),A>2", "+p(1)"), 1, 2, 1, 0);
    }

    private static void factsAndOrigins() {
        Bench b = new Bench();
        b.block("u(7)", "v(A)=u(A)").issue(2);
        b.block("u(8)", "v(A)=u(A)").append(0);
        b.block("u(9)", "w(A)=u(A)*").append(1);
        b.block("z(A)=u(A)", "y=u(8),u(9)*").append(2);
        b.onDesk("u(6)", "x(A,B)=u(A),u(B),A>B,B>6*");
        Bench.due("authorize", b.authorize(3, 2), NONE);
        Bench.same("facts of four blocks", b.facts(),
            "u(6)@16 u(7)@1 u(8)@2 u(9)@4 v(6)@17 v(6)@18 v(7)@1 v(7)@3 v(8)@2 "
            + "w(6)@20 w(7)@5 w(8)@6 w(9)@4 x(8,7)@19 x(9,7)@21 x(9,8)@22 y@14 z(6)@24 z(7)@9");
        Bench.due("rounds", b.latest(2), 2);
        Bench.due("authorize a shorter one", b.authorize(1, 2), NONE);
        Bench.same("facts of two blocks", b.facts(),
            "u(6)@16 u(7)@1 u(8)@2 v(6)@17 v(6)@18 v(7)@1 v(7)@3 v(8)@2 x(8,7)@19");

        Bench same = new Bench();
        same.block("p(1)", "p(1)").issue(1);
        same.block("p(1)").append(0);
        same.onDesk("p(1)", "q(A)=p(A)*");
        same.authorize(1, 1);
        Bench.same("one fact for each origin", same.facts(), "p(1)@1 p(1)@2 p(1)@16 q(1)@16 q(1)@17 q(1)@18");
        same.onDesk("p(1)", "p(A)=p(A)");
        same.authorize(1, 1);
        Bench.same("its own place joins the origin", same.facts(), "p(1)@1 p(1)@2 p(1)@16 p(1)@17");
    }

    /** What a rule gives in a block or at the desk, where a token of four blocks, and the desk, have f(place) each. */
    private static String derived(int place, String clause) {
        Bench b = new Bench();
        for (int i = 0; i < 4; i++) {
            b.block("f(" + i + ")");
            if (i == place) {
                b.block(clause);
            }
            if (i == 0) {
                b.issue(3);
            } else {
                b.append(i - 1);
            }
        }
        b.onDesk("f(4)");
        if (place == 4) {
            b.desk(clause);
        }
        b.authorize(3, 3);
        return b.facts().replaceAll("f\\S* ?", "").trim();
    }

    private static void trust() {
        Bench.same("place 0", derived(0, "g(A)=f(A)"), "g(0)@1 g(4)@17");
        Bench.same("place 0 with *", derived(0, "g(A)=f(A)*"), "g(0)@1 g(4)@17");
        Bench.same("place 1", derived(1, "g(A)=f(A)"), "g(0)@3 g(1)@2 g(4)@18");
        Bench.same("place 1 with *", derived(1, "g(A)=f(A)*"), "g(0)@3 g(1)@2 g(4)@18");
        Bench.same("place 2", derived(2, "g(A)=f(A)"), "g(0)@5 g(2)@4 g(4)@20");
        Bench.same("place 2 with *", derived(2, "g(A)=f(A)*"), "g(0)@5 g(1)@6 g(2)@4 g(4)@20");
        Bench.same("place 3", derived(3, "g(A)=f(A)"), "g(0)@9 g(3)@8 g(4)@24");
        Bench.same("place 3 with *", derived(3, "g(A)=f(A)*"), "g(0)@9 g(1)@10 g(2)@12 g(3)@8 g(4)@24");
        Bench.same("the desk", derived(4, "g(A)=f(A)"), "g(0)@17 g(4)@16");
        Bench.same("the desk with *", derived(4, "g(A)=f(A)*"), "g(0)@17 g(1)@18 g(2)@20 g(3)@24 g(4)@16");

        Bench b = new Bench();
        b.block("p(1)", "?p(2)", "!p(A),A<2").issue(1);
        b.block("p(2)", "?p(1)", "?p(2)").append(0);
        b.block("?p(2)", "?p(2)*", "!p(A),A=1", "!p(A),A=1*").append(1);
        b.onDesk("-p(2)", "+p(2)*");
        b.authorize(2, 1);
        Bench.due("what checks trust", b.latest(0), CHECKS);
        Bench.due("what checks trust", b.latest(3), 1 + 16 + 128);
        Bench policy = new Bench();
        policy.block("p(1)").issue(1);
        policy.block("p(2)", "q(A)=p(A)").append(0);
        policy.onDesk("-p(2)", "+p(2)*");
        Bench.due("what policies trust", policy.authorize(1, 1), 1);
        policy.onDesk("-q(1)", "-q(2)", "+p(1)");
        Bench.due("what a block derives is not trusted", policy.authorize(1, 1), 2);
        policy.onDesk("r(A)=q(A)", "s(A)=q(A)*", "-r(1)", "-s(1)", "+s(1)*");
        Bench.due("not even once more derived", policy.authorize(1, 1), 2);
        policy.onDesk("p(3)", "t(A)=p(A)", "-t(2)", "+t(3)");
        Bench.due("the desk's own", policy.authorize(1, 1), 1);
    }

    private static void bindings() {
        String[] facts = {"p", "p(1)", "p(1,2)", "p(2,2)", "q(2)"};
        latest("no terms", with(facts, "+p"), 0, 5, 1, 0);
        latest("letter", with(facts, "+q", "+r(2)", "+q(1)"), NONE, 5, 1, 0);
        latest("one term", with(facts, "+p(2)", "+p(1)"), 1, 5, 1, 0);
        latest("two terms", with(facts, "+p(2,1)", "+p(1,1)", "+p(1,2)"), 2, 5, 1, 0);
        latest("negative", with(block("p(-3)"), "+p(3)", "+p(-3)"), 1, 1, 1, 0);
        latest("minus nought", with(block("p(-0)"), "+p(0000)"), 0, 1, 1, 0);
        Bench same = with(facts, "r(A)=p(A,A)", "s(A,B)=p(A,B),q(B)", "t(B)=p(A),p(A,B)", "u(B,A)=p(A,B)");
        same.authorize(0, 1);
        Bench.same("one value for each variable", same.facts(),
            "p@1 p(1)@1 p(1,2)@1 p(2,2)@1 q(2)@1 r(2)@17 s(1,2)@17 s(2,2)@17 t(2)@17 u(2,1)@17 u(2,2)@17");
        Bench fixed = with(block("p(1,2)", "p(3,2)", "p(2,5)"),
            "q(A)=p(A,2)", "r(A,7)=p(2,A)", "s(-1,A)=p(A,B),p(B,5)");
        fixed.authorize(0, 1);
        Bench.same("numbers in atoms", fixed.facts(),
            "p(1,2)@1 p(2,5)@1 p(3,2)@1 q(1)@17 q(3)@17 r(5,7)@17 s(-1,1)@17 s(-1,3)@17");
        Bench three = with(block("p(1)", "p(2)", "q(A,B)=p(A),p(B)", "r(A,B)=p(A),p(B),p(C),A+B=C"));
        three.authorize(0, 1);
        Bench.same("one fact for two atoms", three.facts(),
            "p(1)@1 p(2)@1 q(1,1)@1 q(1,2)@1 q(2,1)@1 q(2,2)@1 r(1,1)@1");
        Bench all = with(block("f(1,2)", "f(3,4)"), "q(A,H)=f(A,B),f(G,H),A<G");
        all.authorize(0, 1);
        Bench.same("all variables", all.facts(), "f(1,2)@1 f(3,4)@1 q(1,4)@17");
        Bench ground = with(block("p"), "q(5)=p", "r=p,q(5)", "s=p,q(6)");
        ground.authorize(0, 1);
        Bench.same("rules without variables", ground.facts(), "p@1 q(5)@17 r@17");
    }

    private static void roundsAllAtOnce() {
        latest("in the order of the rules", with(block("p", "q=p", "r=q", "s=r")), NONE, 4, 4, 0);
        latest("against it", with(block("p", "s=r", "r=q", "q=p")), NONE, 4, 4, 0);
        latest("by two ways", with(block("p", "q=p", "r=p", "s=q,r", "s=p")), NONE, 4, 2, 0);
        latest("nothing to do", with(block("q=p")), NONE, 0, 1, 0);
        latest("no clauses", with(block()), NONE, 0, 1, 0);
        latest("what is there already", with(block("p(1)", "p(A)=p(A)")), NONE, 1, 1, 0);
        Bench path = with(block("e(1,2)", "e(2,3)", "e(3,1)", "c(A,B)=e(A,B)", "c(A,C)=c(A,B),e(B,C)"));
        latest("a ring", path, NONE, 12, 4, 0);
    }

    /** What comes of a sum over a fact p(a,b): the sum's value, or ERRORS. */
    private static void sum(String text, int a, int b, int value) {
        Bench bench = new Bench().block("p(" + a + "," + b + ")");
        bench.issue(1);
        // A number has four digits at most, and no sign.
        String size = Math.abs(value) / 10 + "*10";
        String shown = value < 0 ? "0-" + size + "-" + -value % 10 : size + "+" + value % 10;
        bench.onDesk("-p(A,B)," + text + "#" + shown, "+p(A,B)," + text + "=" + shown);
        Bench.due(text + " = " + value + " with " + a + " and " + b, bench.authorize(0, 1), 1);
    }

    private static void sumFails(String text, int a, int b) {
        Bench bench = new Bench().block("p(" + a + "," + b + ")");
        bench.issue(1);
        bench.onDesk("+p(A,B)," + text + "=0");
        Bench.due(text + " with " + a + " and " + b, bench.authorize(0, 1), ERRORS);
        bench.onDesk("+p(A,B),0<" + text);
        Bench.due("on the right side " + text, bench.authorize(0, 1), ERRORS);
    }

    private static void calculating() {
        sum("A-B-1", 10, 3, 6);
        sum("A-(B-1)", 10, 3, 8);
        sum("A+B*2", 1, 3, 7);
        sum("(A+B)*2", 1, 3, 8);
        sum("A/B/2", 100, 5, 10);
        sum("A/(B/2)", 100, 5, 50);
        sum("A/B*B", 7, 2, 6);
        sum("A*B/2", 7, 3, 10);
        sum("A-B*2+1", 10, 3, 5);
        sum("A/B", 7, 2, 3);
        sum("A/B", -7, 2, -3);
        sum("A/B", 7, -2, -3);
        sum("A/B", -7, -2, 3);
        sum("A/B", 1, 2, 0);
        sum("A/B", -1, 2, 0);
        sum("((A+((B))))", 1, 2, 3);
        sum("0-A", 5, 0, -5);
        sum("A*10+9", 9999, 0, 99999);
        sum("A*10-9", -9999, 0, -99999);
        sum("A*B+9", 9999, 10, 99999);
        sum("A*B+8", 9999, 10, 99998);
        sum("A*B-8", -9999, 10, -99998);
        sumFails("A*10+10", 9999, 0);
        sumFails("A*10-10", -9999, 0);
        sumFails("A*B", 9999, 9999);
        sumFails("A*B", -9999, 9999);
        sumFails("A*B", 100, 1000);
        sumFails("A*B", 100, -1000);
        sumFails("A*B-B*A", 1000, 100);
        sumFails("A/B", 1, 0);
        sumFails("A/B", 0, 0);
        sumFails("A/(B-B)", 1, 5);
        sumFails("0*(A/0)", 1, 0);
        sumFails("A*10+9+1-1", 9999, 0);
        sumFails("A*10*10*10*10*10", 9999, 0);
        sumFails("(A*10+9)*(A*10+9)", 9999, 0);
        sumFails("(A*10-9)*(A*10-9)", -9999, 0);
    }

    private static void comparing() {
        int[][] pairs = {{1, 2}, {2, 1}, {2, 2}, {-1, 1}, {-2, -2}};
        for (int[] pair : pairs) {
            int a = pair[0];
            int b = pair[1];
            String fact = "p(" + a + "," + b + ")";
            Bench.due(a + " < " + b, with(block(fact), "+p(A,B),A<B").authorize(0, 1), a < b ? 0 : NONE);
            Bench.due(a + " > " + b, with(block(fact), "+p(A,B),A>B").authorize(0, 1), a > b ? 0 : NONE);
            Bench.due(a + " = " + b, with(block(fact), "+p(A,B),A=B").authorize(0, 1), a == b ? 0 : NONE);
            Bench.due(a + " # " + b, with(block(fact), "+p(A,B),A#B").authorize(0, 1), a != b ? 0 : NONE);
        }
        latest("both are needed", with(block("p(5)"), "+p(A),A>5,A<9", "+p(A),A>4,A<5", "+p(A),A>4,A<6"), 2, 1, 1, 0);
        latest("* behind a sum", with(block("p(5)"), "+p(A),A<2*2*", "+p(A),A<2*3*"), 1, 1, 1, 0);
    }

    private static void errorsOfRules() {
        latest("a rule fails", with(block("p(0)", "p(2)", "q=p(A),4/A>0"), "+p(0)"), ERRORS, 3, 2, 0);
        latest("and gives nothing for it", with(block("p(0)", "q=p(A),4/A>0"), "+p(0)"), ERRORS, 1, 1, 0);
        latest("not behind a false one", with(block("p(0)", "q=p(A),A>0,4/A>0"), "+p(0)"), 0, 1, 1, 0);
        latest("but before it", with(block("p(0)", "q=p(A),4/A>0,A>0"), "+p(0)"), ERRORS, 1, 1, 0);
        latest("behind a true one", with(block("p(0)", "q=p(A),A=0,4/A>0"), "+p(0)"), ERRORS, 1, 1, 0);
        latest("LIMIT comes first", with(block("p(0)", "q=p(A),4/A>0", "r=p(0)", "s=r"), "+p(0)"), ERRORS, 3, 3, 0);
        Bench limit = with(block("p(0)", "q=p(A),4/A>0", "r=p(0)", "s=r"), "+p(0)");
        limit.limits(30, 2);
        latest("LIMIT comes first", limit, LIMIT, 0, 2, 0);
        latest("a fact that comes late", with(block("p", "q=p", "n(0)=q", "r=n(A),1/A=1"), "+p"), ERRORS, 3, 3, 0);
        latest("a desk's rule", with(block("p(0)"), "q=p(A),4/A>0", "+p(0)"), ERRORS, 1, 1, 0);
        Bench untrusted = new Bench();
        untrusted.block("q=n(A),1/A=1").issue(1);
        untrusted.block("n(0)").append(0);
        untrusted.onDesk("r=n(A),1/A=1", "?n(A),1/A=1", "+n(A),1/A=1");
        Bench.due("what is not trusted can't fail", untrusted.authorize(1, 1), CHECKS);
    }

    private static void errorsOfChecks() {
        String[] facts = {"p(0)", "p(2)"};
        latest("? that holds, too", with(facts, "?p(A),4/A>0", "+p(0)"), ERRORS, 2, 1, 0);
        latest("! that fails", with(facts, "!p(A),4/A>0", "+p(0)"), ERRORS, 2, 1, 0);
        latest("before an unfulfilled one", with(facts, "?p(A),4/A>0", "?p(7)", "+p(0)"), ERRORS, 2, 1, 0);
        latest("behind an unfulfilled one", with(facts, "?p(7)", "?p(A),4/A>0", "+p(0)"), ERRORS, 2, 1, 0);
        latest("a block's", with(block("p(0)", "?p(A),4/A>0"), "+p(0)"), ERRORS, 1, 1, 0);
        latest("and no policy", with(facts, "?p(A),4/A>0"), ERRORS, 2, 1, 0);
        latest("before a DENY", with(facts, "?p(A),4/A>0", "-p(0)"), ERRORS, 2, 1, 0);
    }

    private static void errorsOfPolicies() {
        String[] facts = {"p(0)", "p(2)"};
        latest("the first fails and holds", with(facts, "+p(A),4/A>0"), ERRORS, 2, 1, 0);
        latest("the first fails", with(facts, "-p(A),4/A>9", "+p(0)"), ERRORS, 2, 1, 0);
        latest("one behind the one that decides", with(facts, "+p(0)", "-p(A),4/A>9"), 0, 2, 1, 0);
        latest("one behind a DENY", with(facts, "-p(0)", "+p(A),4/A>9"), DENY, 2, 1, 0);
        latest("one before it", with(facts, "+q", "+p(A),4/A>9", "+p(0)"), ERRORS, 2, 1, 0);
        latest("none decides", with(facts, "+q", "-p(A),A>2,4/A>9", "+p(A),4/A>9"), ERRORS, 2, 1, 0);
        latest("an unfulfilled check and a policy", with(facts, "?q", "+p(A),4/A>9"), ERRORS, 2, 1, 0);
        latest("an unfulfilled check, one behind", with(facts, "?q", "+p(0)", "+p(A),4/A>9"), CHECKS, 2, 1, 1);
    }

    private static void checks() {
        String[] facts = {"p(1)", "p(2)", "q(3)"};
        latest("? with one", with(facts, "?p(A),A>1", "+p(1)"), 0, 3, 1, 0);
        latest("? with none that holds", with(facts, "?p(A),A>2", "+p(1)"), CHECKS, 3, 1, 1);
        latest("? with no binding", with(facts, "?r", "+p(1)"), CHECKS, 3, 1, 1);
        latest("! with all", with(facts, "!p(A),A>0", "+p(1)"), 0, 3, 1, 0);
        latest("! with one that does not hold", with(facts, "!p(A),A>1", "+p(1)"), CHECKS, 3, 1, 1);
        latest("! with the last not to hold", with(facts, "!p(A),A<2", "+p(1)"), CHECKS, 3, 1, 1);
        latest("! with no binding", with(facts, "!r(A),A>0", "+p(1)"), CHECKS, 3, 1, 1);
        latest("! with pairs", with(facts, "!p(A),q(B),A<B", "+p(1)"), 0, 3, 1, 0);
        latest("! without comparisons", with(facts, "!p(A),q(3)", "+p(1)"), 0, 3, 1, 0);
        latest("before DENY", with(facts, "?r", "-p(1)"), CHECKS, 3, 1, 1);
        latest("before NONE", with(facts, "?r"), CHECKS, 3, 1, 1);
        latest("of derived facts", with(facts, "?r(3)", "r(A)=q(A)", "+r(3)"), 0, 4, 2, 0);
        latest("a block's", with(block("p", "?q"), "q", "+p"), 0, 2, 1, 0);
        latest("a block's", with(block("p", "?r"), "q", "+p"), CHECKS, 2, 1, 1);
        latest("! behind one that misses", with(facts, "?p(A),A>1", "!p(A),A>0", "+p(1)"), 0, 3, 1, 0);
        latest("? behind one that holds", with(facts, "?p(A)", "?r(A)", "!r(A)", "+p(1)"), CHECKS, 3, 1, 6);
    }

    private static void numbersOfChecks() {
        Bench b = new Bench();
        b.block("?x", "p", "!p", "?x", "?p").issue(1);
        b.block("!x", "!p", "?p").append(0);
        b.onDesk("?x", "+p", "?p", "q=p", "!x");
        Bench.due("authorize", b.authorize(1, 1), CHECKS);
        Bench.due("the checks", b.latest(3), 1 + 4 + 16 + 128 + 512);
        Bench.due("authorize", b.authorize(0, 1), CHECKS);
        Bench.due("the checks of fewer blocks", b.latest(3), 1 + 4 + 16 + 64);
        Bench all = new Bench();
        for (int i = 0; i < 4; i++) {
            all.block("?x", "?x", "!x", "?x", "?x");
            if (i == 0) {
                all.issue(1);
            } else {
                all.append(i - 1);
            }
        }
        all.onDesk("?x", "?x", "?x", "?x", "?x", "?x", "?x", "?x", "?x", "?x");
        Bench.due("thirty checks", all.authorize(3, 1), CHECKS);
        Bench.due("thirty checks", all.latest(3), (1 << 30) - 1);
        all.onDesk("x", "?x");
        Bench.due("thirty checks fulfilled", all.authorize(3, 1), NONE);
        Bench.due("thirty checks fulfilled", all.latest(3), 0);
    }

    private static void orderOfFacts() {
        Bench b = new Bench();
        b.block("z", "b(2,-3)", "b(2,1)", "b(-5)", "b(7)").issue(1);
        b.block("a(9,9)", "b", "b(-5)", "c(0)", "b(-9,99)").append(0);
        b.onDesk("b(2,1)", "a(-1)", "a(3)", "b(2)", "z");
        b.authorize(1, 1);
        Bench.same("in their order", b.facts(),
            "a(-1)@16 a(3)@16 a(9,9)@2 b@2 b(-5)@1 b(-5)@2 b(2)@16 b(7)@1 b(-9,99)@2 "
            + "b(2,-3)@1 b(2,1)@1 b(2,1)@16 c(0)@2 z@1 z@16");
        int[][] rows = {{0, 1, -1, 0, 16}, {0, 1, 3, 0, 16}, {0, 2, 9, 9, 2}, {1, 0, 0, 0, 2}, {1, 1, -5, 0, 1}};
        for (int k = 0; k < rows.length; k++) {
            for (int what = 0; what < 5; what++) {
                Bench.due("fact(" + k + ", " + what + ")", b.fact(k, what), rows[k][what]);
            }
        }
        Bench.due("z is 25", b.fact(14, 0), 25);
    }

    private static void wrongQuestions() {
        Bench b = with(block("p(1)", "p(2)"));
        b.authorize(0, 1);
        for (int k : new int[] {Integer.MIN_VALUE, -1, 2, 30, 31, Integer.MAX_VALUE}) {
            Bench.due("fact(" + k + ", 0)", b.fact(k, 0), Bench.INDEX);
        }
        for (int what : new int[] {Integer.MIN_VALUE, -1, 5, 6, Integer.MAX_VALUE}) {
            Bench.due("fact(0, " + what + ")", b.fact(0, what), Bench.INDEX);
        }
        for (int what : new int[] {Integer.MIN_VALUE, -1, 4, 5, Integer.MAX_VALUE}) {
            Bench.due("latest(" + what + ")", b.latest(what), 0);
        }
    }

    private static void latestStays() {
        Bench b = with(block("p(1)", "?p(2)"));
        latest("one that is unfulfilled", b, CHECKS, 1, 1, 1);
        b.block("q");
        b.append(0);
        b.desk("r");
        b.limits(1, 1);
        b.seal(0);
        b.tamper(1, 0, 0, 0);
        Bench.due("latest(0)", b.latest(0), CHECKS);
        Bench.due("latest(3)", b.latest(3), 1);
        Bench.same("its facts", b.facts(), "p(1)@1");
        Bench.due("LIMIT", b.authorize(0, 1), LIMIT);
        Bench.due("latest(1)", b.latest(1), 0);
        Bench.due("latest(2)", b.latest(2), 0);
        Bench.due("latest(3)", b.latest(3), 0);
        Bench.same("no facts", b.facts(), "");
    }

    private static void latestDoesNotLast() {
        Bench b = with(block("p(0)"), "q=p(A),1/A=1", "+p(0)");
        latest("a rule that fails", b, ERRORS, 1, 1, 0);
        b.onDesk("+p(0)");
        latest("and then none", b, 0, 1, 1, 0);
        b.onDesk("+p(A),1/A=1");
        latest("a policy that fails", b, ERRORS, 1, 1, 0);
        b.onDesk("q=p(A),A>0", "!p(A),A=0", "-p(1)", "+p(0)");
        latest("and then none", b, 1, 1, 1, 0);
        b.onDesk("?p(1)");
        latest("an unfulfilled check", b, CHECKS, 1, 1, 1);
        b.onDesk("?p(0)", "-p(0)");
        latest("and then none", b, DENY, 1, 1, 0);
        b.limits(1, 1);
        b.onDesk("p(1)");
        latest("too many facts", b, LIMIT, 0, 0, 0);
        b.onDesk("+p(0)");
        latest("and then not", b, 0, 1, 1, 0);
    }
}
