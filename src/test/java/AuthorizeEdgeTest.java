/** The edges of promises 11 to 14 and of "Terms": MOST and MORE, facts, rounds, checks and policies. */
public final class AuthorizeEdgeTest {
    private static final int BAD = -1;
    private static final int LIMIT = -2;
    private static final int ERRORS = -3;
    private static final int CHECKS = -4;
    private static final int DENY = -5;
    private static final int NONE = -6;

    public static void main(String[] args) {
        everyLimit();
        limitsOfANewObject();
        mostAtTheBeginning();
        mostAfterARound();
        mostAfterALaterRound();
        thirtyOneFacts();
        everyMore();
        whatComesFirst();
        noFactsAtAll();
        threeAtomsOfThirtyFacts();
        originsOfAllPlaces();
        thirtyChecks();
        tenPolicies();
        everyFact();
        factsWithoutAuthorize();
        everyLatest();
        theLastCall();
        Bench.close();
    }

    /** Token 3, for root 1, has the first 20 clauses, five a block; the desk has the others. */
    private static Bench spread(String... texts) {
        Bench b = new Bench();
        for (int place = 0; place < 4; place++) {
            for (int i = place * 5; i < place * 5 + 5 && i < texts.length; i++) {
                b.block(texts[i]);
            }
            Bench.due("a token of " + (place + 1) + " links", place == 0 ? b.issue(1) : b.append(place - 1), place);
        }
        for (int i = 20; i < texts.length; i++) {
            Bench.due("desk of " + texts[i], b.desk(texts[i]) >= 0 ? 1 : 0, 1);
        }
        return b;
    }

    /** f(0), f(1), .. and then the others. */
    private static String[] facts(int number, String... others) {
        String[] texts = new String[number + others.length];
        for (int i = 0; i < number; i++) {
            texts[i] = "f(" + i + ")";
        }
        System.arraycopy(others, 0, texts, number, others.length);
        return texts;
    }

    private static void due(String name, Bench b, int result, int facts, int rounds) {
        Bench.due(name, b.authorize(3, 1), result);
        Bench.due(name + ": latest(0)", b.latest(0), result);
        Bench.due(name + ": latest(1)", b.latest(1), facts);
        Bench.due(name + ": latest(2)", b.latest(2), rounds);
        Bench.due(name + ": the last fact", b.fact(facts - 1, 0) >= 0 ? 1 : 0, facts > 0 ? 1 : 0);
        Bench.due(name + ": one behind it", b.fact(facts, 0), Bench.INDEX);
    }

    /** "Sets MOST (1 .. 30) and MORE (1 .. 12): true; false (refused) if they are not so." */
    private static void everyLimit() {
        for (int most = -2; most <= 33; most++) {
            for (int more = -2; more <= 15; more++) {
                boolean right = most >= 1 && most <= 30 && more >= 1 && more <= 12;
                Bench.due("limits(" + most + ", " + more + ")", new Bench().limits(most, more), right ? 1 : 0);
            }
        }
        for (int wrong : new int[] {Integer.MIN_VALUE, Integer.MIN_VALUE + 5, 261, Integer.MAX_VALUE}) {
            Bench.due("limits(" + wrong + ", 5)", new Bench().limits(wrong, 5), 0);
            Bench.due("limits(5, " + wrong + ")", new Bench().limits(5, wrong), 0);
        }
    }

    /** "MOST is 30, MORE is 10" */
    private static void limitsOfANewObject() {
        due("30 facts", spread(facts(30)), NONE, 30, 1);
        due("30 facts after a round", spread(facts(29, "g=f(0)")), NONE, 30, 2);
        due("31 facts after a round", spread(facts(29, "g(A)=f(A),A<2")), LIMIT, 0, 1);
        due("10 rounds", spread(steps(10)), NONE, 10, 10);
        due("11 rounds", spread(steps(11)), LIMIT, 0, 10);
    }

    /** "LIMIT (-2): more than MOST facts [..] at the beginning" */
    private static void mostAtTheBeginning() {
        for (int number = 0; number <= 30; number++) {
            Bench b = spread(facts(number));
            b.limits(Math.max(1, number), 1);
            due(number + " facts, MOST is enough", b, NONE, number, 1);
            if (number >= 2) {
                b.limits(number - 1, 12);
                due(number + " facts, MOST is one less", b, LIMIT, 0, 0);
                b.limits(1, 12);
                due(number + " facts, MOST is 1", b, LIMIT, 0, 0);
                b.limits(number, 1);
                due(number + " facts, MOST is enough again", b, NONE, number, 1);
            }
        }
        Bench same = spread("p(1)", "p(1)", "p(1)", "p(1)", "p(1)", "p(1)");
        same.limits(2, 1);
        due("the same fact at two places", same, NONE, 2, 1);
        same.limits(1, 1);
        due("and MOST is 1", same, LIMIT, 0, 0);
    }

    /** "more than MOST facts after a round" */
    private static void mostAfterARound() {
        for (int number = 2; number <= 30; number++) {
            Bench b = spread(facts(number - 1, "g=f(0)"));
            b.limits(number, 2);
            due(number + " facts after a round, MOST is enough", b, NONE, number, 2);
            b.limits(number - 1, 12);
            due(number + " facts after a round, MOST is one less", b, LIMIT, 0, 1);
            b.limits(number, 1);
            due(number + " facts after a round, MORE is 1", b, LIMIT, 0, 1);
            b.limits(number - 1, 1);
            due(number + " facts after a round, both are too few", b, LIMIT, 0, 1);
        }
    }

    private static void mostAfterALaterRound() {
        for (int number = 3; number <= 30; number++) {
            Bench b = spread(facts(number - 2, "g=f(0)*", "h=g*"));
            b.limits(number, 3);
            due(number + " facts after two rounds, MOST is enough", b, NONE, number, 3);
            b.limits(number - 1, 3);
            due(number + " facts after two rounds, MOST is one less", b, LIMIT, 0, 2);
        }
    }

    private static void thirtyOneFacts() {
        Bench b = spread(facts(29, "g(A)=f(A),A<1"));
        b.limits(30, 12);
        due("29 facts and one", b, NONE, 30, 2);
        b = spread(facts(29, "g(A)=f(A),A<2"));
        b.limits(30, 12);
        due("29 facts and two", b, LIMIT, 0, 1);
        b = spread(facts(5, "g(A,B)=f(A),f(B)"));
        b.limits(30, 12);
        due("5 facts and 25", b, NONE, 30, 2);
        b = spread(facts(5, "g(A,B)=f(A),f(B)", "h=f(0)"));
        b.limits(30, 12);
        due("5 facts and 26", b, LIMIT, 0, 1);
        b = spread(facts(5, "g(A,B)=f(A),f(B)", "g(A,B)=f(B),f(A)"));
        b.limits(30, 12);
        due("5 facts and 25 twice", b, NONE, 30, 2);
    }

    /** A chain of rules that needs this many rounds, the last of which gives nothing new. */
    private static String[] steps(int rounds) {
        String[] texts = new String[rounds];
        texts[0] = "a";
        for (int i = 1; i < rounds; i++) {
            texts[i] = (char) ('a' + i) + "=" + (char) ('a' + i - 1) + "*";
        }
        return texts;
    }

    /** "MORE rounds were made and the last one gave something new" */
    private static void everyMore() {
        for (int rounds = 1; rounds <= 13; rounds++) {
            Bench b = spread(steps(rounds));
            for (int more = 1; more <= 12; more++) {
                b.limits(30, more);
                boolean enough = rounds <= more;
                due(rounds + " rounds, MORE is " + more, b, enough ? NONE : LIMIT, enough ? rounds : 0,
                    enough ? rounds : more);
            }
        }
    }

    private static void whatComesFirst() {
        Bench b = spread("f(0)", "f(1)", "z=f(A),1/A=1", "?f(2)");
        b.onDesk("+f(A),1/A=1");
        b.limits(1, 1);
        Bench.due("BAD before LIMIT", b.authorize(3, 2), BAD);
        Bench.due("BAD: rounds", b.latest(2), 0);
        due("LIMIT before ERRORS", b, LIMIT, 0, 0);
        b.limits(3, 1);
        due("LIMIT of rounds before ERRORS", b, LIMIT, 0, 1);
        b.limits(3, 2);
        due("ERRORS before CHECKS", b, ERRORS, 3, 2);
        Bench.due("ERRORS: latest(3)", b.latest(3), 0);
        Bench checks = spread("f(0)", "?f(2)");
        checks.onDesk("-f(0)");
        due("CHECKS before DENY", checks, CHECKS, 1, 1);
        checks.clear();
        due("CHECKS before NONE", checks, CHECKS, 1, 1);
        Bench.due("CHECKS: latest(3)", checks.latest(3), 1);
    }

    private static void noFactsAtAll() {
        due("no clauses", spread(), NONE, 0, 1);
        due("rules alone", spread("p=q", "q=p"), NONE, 0, 1);
        for (String check : new String[] {"?p", "!p", "!p(A),A=A", "?p(A),1/0=1", "!p(A),1/0=1"}) {
            Bench b = spread(check);
            due(check + " of no facts", b, CHECKS, 0, 1);
            Bench.due(check + ": latest(3)", b.latest(3), 1);
        }
        for (String policy : new String[] {"+p", "-p", "+p(A),1/0=1"}) {
            due(policy + " of no facts", spread().onDesk(policy), NONE, 0, 1);
        }
    }

    private static void threeAtomsOfThirtyFacts() {
        String[] texts = facts(5, "g(A,B)=f(A),f(B)");
        String[] bodies = {"?g(A,B),g(C,D),g(E,F),A+C+E>11*", "!g(A,B),g(C,D),g(E,F),A+C+E<13*"};
        String[] others = {"?g(A,B),g(C,D),g(E,F),A+C+E>12*", "!g(A,B),g(C,D),g(E,F),A+C+E<12*"};
        for (int i = 0; i < bodies.length; i++) {
            due(bodies[i], spread(texts).onDesk(bodies[i], "+f(4)"), 0, 30, 2);
            due(others[i], spread(texts).onDesk(others[i], "+f(4)"), CHECKS, 30, 2);
        }
    }

    private static void originsOfAllPlaces() {
        Bench b = new Bench();
        for (int place = 0; place < 4; place++) {
            b.block("f(" + place + ")");
            Bench.due("a link more", place == 0 ? b.issue(1) : b.append(place - 1), place);
        }
        b.onDesk("x=f(0),f(1),f(2)*", "y=x,f(3)*", "z=x,f(3)", "+y", "+y*");
        due("origins", b, 1, 6, 3);
        Bench.same("origins", b.facts(), "f(0)@1 f(1)@2 f(2)@4 f(3)@8 x@23 y@31");
    }

    /** "by their order in the blocks and then the desk: the sum of 1, 2, 4, .." */
    private static void thirtyChecks() {
        for (int at = 0; at < 30; at++) {
            String[] texts = new String[30];
            int open = 0;
            int number = 0;
            for (int i = 0; i < 30; i++) {
                texts[i] = i == at ? "x" : i % 2 == 0 ? "?x" : "!x";
                boolean trusts = at < 5 || at >= 20 || i / 5 == at / 5;
                open |= i == at || trusts ? 0 : 1 << number;
                number += i == at ? 0 : 1;
            }
            Bench b = spread(texts);
            due("a fact at " + at, b, open == 0 ? NONE : CHECKS, 1, 1);
            Bench.due("a fact at " + at + ": latest(3)", b.latest(3), open);
        }
        String[] all = new String[30];
        for (int i = 0; i < 30; i++) {
            all[i] = "?x";
        }
        Bench b = spread(all);
        due("no fact", b, CHECKS, 0, 1);
        Bench.due("no fact: latest(3)", b.latest(3), (1 << 30) - 1);
    }

    /** "ALLOW: its number among these (0, 1, ..); DENY (-5)." */
    private static void tenPolicies() {
        for (int at = 0; at < 10; at++) {
            for (String sign : new String[] {"+", "-"}) {
                Bench b = spread("p");
                for (int i = 0; i < 10; i++) {
                    b.desk(i == at ? sign + "p" : i % 2 == 0 ? "+q" : "-q");
                }
                due("policy " + at + " is " + sign, b, sign.equals("+") ? at : DENY, 1, 1);
            }
        }
    }

    /** "no such fact or what" */
    private static void everyFact() {
        for (int number : new int[] {0, 1, 2, 29, 30}) {
            Bench b = spread(facts(number));
            b.authorize(3, 1);
            for (int k = -2; k <= 33; k++) {
                Bench.due("fact(" + k + ", 2) of " + number, b.fact(k, 2), k >= 0 && k < number ? k : Bench.INDEX);
            }
            for (int what = -2; what <= 7; what++) {
                int due = what == 0 ? 5 : what == 1 || what == 4 ? 1 : what == 2 || what == 3 ? 0 : Bench.INDEX;
                Bench.due("fact(0, " + what + ") of " + number, b.fact(0, what), number == 0 ? Bench.INDEX : due);
            }
            for (int wrong : new int[] {Integer.MIN_VALUE, 256, Integer.MAX_VALUE}) {
                Bench.due("fact(" + wrong + ", 0) of " + number, b.fact(wrong, 0), Bench.INDEX);
                Bench.due("fact(0, " + wrong + ") of " + number, b.fact(0, wrong), Bench.INDEX);
            }
        }
        Bench b = spread("a", "z(9999,-9999)");
        b.authorize(3, 1);
        int[][] due = {{0, 0, 0, 0, 1}, {25, 2, 9999, -9999, 1}};
        for (int k = 0; k < 2; k++) {
            for (int what = 0; what < 5; what++) {
                Bench.due("fact(" + k + ", " + what + ")", b.fact(k, what), due[k][what]);
            }
        }
    }

    private static void factsWithoutAuthorize() {
        Bench b = spread(facts(3));
        for (int what = 0; what < 5; what++) {
            Bench.due("fact(0, " + what + ") before authorize()", b.fact(0, what), Bench.INDEX);
        }
        b.authorize(3, 1);
        Bench.due("fact(2, 2) after it", b.fact(2, 2), 2);
        b.authorize(3, 2);
        Bench.due("fact(0, 0) after BAD", b.fact(0, 0), Bench.INDEX);
        b.authorize(3, 1);
        Bench.due("fact(2, 2) after it", b.fact(2, 2), 2);
        b.limits(2, 1);
        b.authorize(3, 1);
        Bench.due("fact(0, 0) after LIMIT", b.fact(0, 0), Bench.INDEX);
    }

    /** "before the first one, or for another what, 0" */
    private static void everyLatest() {
        Bench b = spread("p", "q=p", "?x", "?p", "?y");
        int[] whats = {Integer.MIN_VALUE, -1, 0, 1, 2, 3, 4, 5, 256, Integer.MAX_VALUE};
        int[] due = {0, 0, CHECKS, 2, 2, 5, 0, 0, 0, 0};
        for (int what : whats) {
            Bench.due("latest(" + what + ") before the first", b.latest(what), 0);
        }
        b.authorize(3, 1);
        for (int i = 0; i < whats.length; i++) {
            Bench.due("latest(" + whats[i] + ")", b.latest(whats[i]), due[i]);
        }
    }

    /** "An object is used for at most 512 calls": the last of them is as good as the first. */
    private static void theLastCall() {
        Bench b = spread(facts(3)).onDesk("+f(2)");
        while (b.callsLeft() > 1) {
            b.type('x');
        }
        Bench.due("the 512th call", b.authorize(3, 1), 0);
        Bench other = spread(facts(3));
        other.type(" ");
        while (other.callsLeft() > 3) {
            other.authorize(3, 1);
        }
        other.type("p");
        Bench.due("the 511th call", other.desk(), 0);
        Bench.due("the 512th call", other.count(4), 1);
    }
}
