import java.util.regex.Pattern;

/** The edges of promises 4, 5 and 6 and of "Terms": what is still a clause, and what is none any more. */
public final class ClauseEdgeTest {
    /** What stands before a body, and the kind of clause that it makes. */
    private static final String[] MARKS = {"z=", "?", "!", "+", "-"};
    private static final int[] KINDS = {1, 2, 3, 4, 5};

    public static void main(String[] args) {
        everyName();
        everyVariable();
        everyDigit();
        everySignOfAComparison();
        everySignOfASum();
        everySignBeforeAndBehind();
        digits();
        termsOfAnAtom();
        atomsOfABody();
        comparisonsOfABody();
        openBrackets();
        variablesThatMustBeInTheBody();
        factsWithoutVariables();
        starsBehindItAll();
        blanks();
        blanksWithinNumbers();
        fiveClauses();
        tenClauses();
        clearing();
        Bench.close();
    }

    /** The text is a clause of this kind, or none if it is Bench.ARGUMENT, for the block as for the desk. */
    private static void due(String text, int kind) {
        Bench b = new Bench();
        boolean policy = kind == 4 || kind == 5;
        Bench.due("characters of \"" + text + "\"", b.type(text), text.length());
        Bench.due("clause() of \"" + text + "\"", b.clause(text), policy ? Bench.UNSUPPORTED : kind);
        Bench.due("count(3) then", b.count(3), kind >= 0 && !policy ? 1 : 0);
        Bench.due("count(5) then", b.count(5), kind >= 0 && !policy ? 0 : text.length());
        Bench.due("desk() of \"" + text + "\"", b.desk(text), kind);
        Bench.due("count(4) then", b.count(4), kind >= 0 ? 1 : 0);
        Bench.due("count(5) then", b.count(5), kind >= 0 ? 0 : text.length());
    }

    private static void body(String text, boolean right) {
        for (int i = 0; i < MARKS.length; i++) {
            due(MARKS[i] + text, right ? KINDS[i] : Bench.ARGUMENT);
        }
    }

    private static boolean isIn(char c, String signs) {
        return signs.indexOf(c) >= 0;
    }

    /** "a letter a .. z" */
    private static void everyName() {
        for (char c = 32; c <= 126; c++) {
            boolean name = c >= 'a' && c <= 'z';
            due("" + c, name ? 0 : Bench.ARGUMENT);
            due(c + "(1)", name ? 0 : Bench.ARGUMENT);
            due(c + "=p", name ? 1 : Bench.ARGUMENT);
            body("" + c, name);
            body("p," + c, name);
            body("p,q," + c + "(1)", name);
        }
    }

    /** "a variable A .. H" */
    private static void everyVariable() {
        for (char c = 32; c <= 126; c++) {
            boolean variable = c >= 'A' && c <= 'H';
            boolean digit = c >= '0' && c <= '9';
            due("p(" + c + ")", digit ? 0 : Bench.ARGUMENT);
            due("p(" + c + ",2)", digit ? 0 : Bench.ARGUMENT);
            due("p(2," + c + ")", digit ? 0 : Bench.ARGUMENT);
            body("p(" + c + ")", digit || variable);
            body("p(" + c + ",A)", digit || variable);
            body("p(A," + c + ")", digit || variable);
            body("p(A,B),q(C,D)," + c + "<1", digit || c >= 'A' && c <= 'D');
            body("p(E,F),q(G,H),1<" + c, digit || c >= 'E' && c <= 'H');
            due("z(" + c + ")=p(" + c + ")", digit || variable ? 1 : Bench.ARGUMENT);
        }
    }

    private static void everyDigit() {
        for (char c = 32; c <= 126; c++) {
            boolean digit = c >= '0' && c <= '9';
            due("p(1" + c + ")", digit || c == ' ' ? 0 : Bench.ARGUMENT);
            due("p(1" + c + "1)", digit || c == ',' ? 0 : Bench.ARGUMENT);
            due("p(" + c + "1)", digit || isIn(c, " -") ? 0 : Bench.ARGUMENT);
            due("p(-" + c + ")", digit ? 0 : Bench.ARGUMENT);
            body("p(A)," + c + "1<1", digit || c == ' ');
            body("p(A),1<1" + c, digit || isIn(c, " *"));
        }
    }

    /** "sum < sum, sum > sum, sum = sum or sum # sum" */
    private static void everySignOfAComparison() {
        for (char c = 32; c <= 126; c++) {
            body("p(A),A" + c + "1", isIn(c, "<>=#"));
            body("p(A),A" + c + "<1", c == ' ');
            body("p(A),A<" + c + "1", c == ' ' || c >= '0' && c <= '9');
        }
    }

    /** "product { + product or - product }", "factor { * factor or / factor }" */
    private static void everySignOfASum() {
        for (char c = 32; c <= 126; c++) {
            body("p(A),A" + c + "A<1", isIn(c, "+-*/"));
            body("p(A),1<A" + c + "A", isIn(c, "+-*/"));
            body("p(A),(A)" + c + "(A)<1", isIn(c, "+-*/"));
            body("p(A),A" + c + "A,A<1", isIn(c, "<>=#"));
        }
    }

    private static void everySignBeforeAndBehind() {
        int[] kinds = new int[127];
        for (char c = 32; c <= 126; c++) {
            kinds[c] = Bench.ARGUMENT;
        }
        kinds[' '] = 0;
        kinds['?'] = 2;
        kinds['!'] = 3;
        kinds['+'] = 4;
        kinds['-'] = 5;
        for (char c = 32; c <= 126; c++) {
            due(c + "p(1)", kinds[c]);
            due("p" + c, c == ' ' ? 0 : Bench.ARGUMENT);
            due("p(1)" + c, c == ' ' ? 0 : Bench.ARGUMENT);
            due("p" + c + "q", c == '=' ? 1 : Bench.ARGUMENT);
            body("p" + c, isIn(c, " *"));
            body("p(1)" + c, isIn(c, " *"));
            body("p" + c + "q", c == ',');
            body("p,1<2" + c + "1<2", c == ',');
        }
    }

    /** "1 to 4 digits, perhaps - before" */
    private static void digits() {
        String[] right = {"1", "0", "12", "00", "123", "0000", "9999", "0009"};
        String[] wrong = {"", "12345", "00000", "00001", "10000", "99999", "123456789", "4294967297"};
        for (String number : right) {
            numbers(number, true);
        }
        for (String number : wrong) {
            numbers(number, false);
        }
        for (String number : new String[] {"--1", "-+1", "+1", "1-", "-1-", "1.0", "1e2"}) {
            due("p(" + number + ")", Bench.ARGUMENT);
            body("p(" + number + ")", false);
        }
    }

    private static void numbers(String number, boolean right) {
        int fact = right ? 0 : Bench.ARGUMENT;
        for (String term : new String[] {number, "-" + number}) {
            due("p(" + term + ")", fact);
            due("p(" + term + ",1)", fact);
            due("p(1," + term + ")", fact);
            due("z(" + term + ")=p", right ? 1 : Bench.ARGUMENT);
            due("z(1," + term + ")=p", right ? 1 : Bench.ARGUMENT);
            body("p(" + term + ")", right);
            body("p,q,p(1," + term + ")", right);
        }
        body("p," + number + "<1", right);
        body("p,1<" + number, right);
        body("p,1<2,1+(2*" + number + ")<1", right);
        body("p,-" + number + "<1", false);
        body("p,1<-" + number, false);
    }

    /** "a letter a .. z, or that and ( term ) or ( term , term )" */
    private static void termsOfAnAtom() {
        String[] right = {"p", "p(1)", "p(1,2)"};
        String[] wrong = {
            "p()", "p(,)", "p(1,)", "p(,1)", "p(1,2,)", "p(1,2,3)", "p(1,2,3,4)", "p(", "p)", "p(1", "p1)", "p(1,2",
            "p((1))", "p(1)(2)", "p(1))", "p(1;2)", "pp(1)", "p(q)", "p(1+1)",
        };
        for (String atom : right) {
            due(atom, 0);
            due(atom + "=p", 1);
            body(atom, true);
            body("p," + atom + ",1<2", true);
        }
        for (String atom : wrong) {
            due(atom, Bench.ARGUMENT);
            due(atom + "=p", Bench.ARGUMENT);
            body(atom, false);
            body("p," + atom + ",1<2", false);
        }
    }

    /** "at most 3 atoms" */
    private static void atomsOfABody() {
        body("", false);
        body("p", true);
        body("p,q", true);
        body("p,q,r", true);
        body("p,q,r,s", false);
        body("p,q,r,s,t", false);
        body("p(A,B),p(B,C),p(C,D)", true);
        body("p(A),p(A),p(A),p(A)", false);
        body("p,p,p,p", false);
        body("1<2", false);
        body("p,q,r,s,1<2", false);
        body("p,q,1<2,r", false);
        body("p,1<2,q,1<2", false);
        body("p,q,r,", false);
        body(",p", false);
        body("p,,q", false);
    }

    /** "at most [..] 2 comparisons" */
    private static void comparisonsOfABody() {
        for (String atoms : new String[] {"p", "p,q", "p,q,r"}) {
            body(atoms, true);
            body(atoms + ",1<2", true);
            body(atoms + ",1<2,1>2", true);
            body(atoms + ",1<2,1>2,1=2", false);
            body(atoms + ",1<2,1>2,1=2,1#2", false);
            body(atoms + ",", false);
            body(atoms + ",1<2,", false);
            body(atoms + ",1<2,1>2,", false);
            body(atoms + ",1", false);
            body(atoms + ",1<", false);
            body(atoms + ",<1", false);
            body(atoms + ",1<2<3", false);
        }
    }

    /** "at most 4 ( are open at once" */
    private static void openBrackets() {
        body("p,(1)<(1)", true);
        body("p,((1))<((1))", true);
        body("p,(((1)))<(((1)))", true);
        body("p,((((1))))<((((1))))", true);
        body("p,((((1))))<1,((((1))))<((((1))))", true);
        body("p(1,2),((((1))))<1", true);
        body("p,(((((1)))))<1", false);
        body("p,1<(((((1)))))", false);
        body("p,1<2,(((((1)))))<1", false);
        body("p,1<2,1<(((((1)))))", false);
        body("p,((((((1))))))<1", false);
        body("p,((((1)+(1)+(1))))<1", true);
        body("p,((((1)+((1))))<1", false);
        body("p,((((1+(1)))))<1", false);
        body("p,((((1)+(1))+(1))+(1))<1", true);
        body("p,(1+(1+(1+(1))))<1", true);
        body("p,(1+(1+(1+(1+(1)))))<1", false);
        body("p,(((1)+(1)+(1)))<1", true);
        body("p,((((1))+((1))))+((((1))))<1", true);
        body("p,(1)+(1)+(1)+(1)+(1)+(1)+(1)<1", true);
        body("p,()<1", false);
        body("p,(1<1", false);
        body("p,1)<1", false);
        body("p,((((1)))<1", false);
        body("p,((((1)))))<1", false);
        body("p,(1<1)", false);
        body("(p)", false);
    }

    /** "A variable in the atom of a RULE before =, and in a comparison, must be in an atom of the body." */
    private static void variablesThatMustBeInTheBody() {
        for (char c = 'A'; c <= 'H'; c++) {
            char other = c == 'H' ? 'A' : (char) (c + 1);
            due("z(" + c + ")=p(" + c + ")", 1);
            due("z(" + c + ")=p(" + other + ")", Bench.ARGUMENT);
            due("z(" + c + "," + other + ")=p(" + other + ")", Bench.ARGUMENT);
            due("z(" + other + "," + c + ")=p(" + other + ")", Bench.ARGUMENT);
            due("z(" + c + "," + other + ")=p,p,p(" + other + "," + c + ")", 1);
            due("z(" + c + ")=p(1)," + c + "=1", Bench.ARGUMENT);
            body("p(" + c + ")," + c + "<1", true);
            body("p,q,p(1," + c + "),1<2,1<" + c, true);
            body("p(" + other + ")," + c + "<1", false);
            body("p(" + other + "),1<" + c, false);
            body("p(" + other + "),1<2,1<2+(3*" + c + ")", false);
            body("p(" + other + ")," + other + "<" + c, false);
        }
        due("z(A)=p(B),A<B", Bench.ARGUMENT);
        due("A<1", Bench.ARGUMENT);
    }

    private static void factsWithoutVariables() {
        for (char c = 'A'; c <= 'H'; c++) {
            due("p(" + c + ")", Bench.ARGUMENT);
            due("p(" + c + "," + c + ")", Bench.ARGUMENT);
            due("p(1," + c + ")", Bench.ARGUMENT);
            due("p(" + c + ",1)", Bench.ARGUMENT);
        }
    }

    /** "Perhaps with an * behind it all [..] (not for a FACT)" */
    private static void starsBehindItAll() {
        for (String text : new String[] {"p*", "p(1)*", "p(1,2)*", "p *", "p* ", "*", "*p", "p**"}) {
            due(text, Bench.ARGUMENT);
        }
        for (String text : new String[] {"p", "p(A)", "p,q,r", "p,1<2", "p,1<2,2<(3)", "p(A),1<A", "p,2<2*2"}) {
            body(text + "*", true);
            body(text + " * ", true);
            body(text + "**", false);
            body(text + "* *", false);
            body(text + "*,", false);
            body(text + "*,q", false);
            body("*" + text, false);
        }
        body("p*,1<2", false);
        body("p,1*<2", false);
        body("p,1<(2*)", false);
        body("p,1<(2*", false);
        due("p*=q", Bench.ARGUMENT);
        due("*p=q", Bench.ARGUMENT);
    }

    /** "blanks may stand before and behind each of the signs, names and numbers, but not within a number" */
    private static void blanks() {
        String[] texts = {
            "p", "p(-12,3)", "z(A,-1)=p(A),q(A)*", "?p(A),(A+1)*2<12-A,1#3*", "!p(A,B),A/(B)>1,1=2", "+p,q,r*",
            "-p(10,H),H=9999",
        };
        int[] kinds = {0, 0, 1, 2, 3, 4, 5};
        Pattern within = Pattern.compile(".*([0-9]|\\(-|,-)");
        for (int i = 0; i < texts.length; i++) {
            String text = texts[i];
            for (int at = 0; at <= text.length(); at++) {
                String before = text.substring(0, at);
                String behind = text.substring(at);
                boolean split = within.matcher(before).matches() && behind.matches("[0-9].*");
                due(before + " " + behind, split ? Bench.ARGUMENT : kinds[i]);
                due(before + "   " + behind, split ? Bench.ARGUMENT : kinds[i]);
            }
        }
        due("  z  ( A , -1 ) = p ( A ) , A < 2  *    ", 1);
    }

    private static void blanksWithinNumbers() {
        for (String number : new String[] {"1 2", "12 3", "1 23", "123 4", "1  2", "0 0"}) {
            due("p(" + number + ")", Bench.ARGUMENT);
            due("p(-" + number + ")", Bench.ARGUMENT);
            due("p(1," + number + ")", Bench.ARGUMENT);
            body("p," + number + "<1", false);
            body("p,1<" + number, false);
        }
        due("p(- 1)", Bench.ARGUMENT);
        due("p(1,-  1)", Bench.ARGUMENT);
        due("p( -1 , -1 )", 0);
        body("p(- 1)", false);
        body("p( -1 )", true);
        body("p,1 - 1 < 1", true);
    }

    /** "BLOCKS have at most 5 clauses, none of them ALLOW or DENY" */
    private static void fiveClauses() {
        String[] texts = {"p(1)", "q=p(1)", "?p(1)", "!p(1)"};
        for (int kind = 0; kind < texts.length; kind++) {
            Bench b = new Bench();
            for (int i = 1; i <= 5; i++) {
                Bench.due("clause " + i + " of the block", b.clause(texts[kind]), kind);
                Bench.due("count(3)", b.count(3), i);
            }
            Bench.due("a sixth clause", b.clause(texts[kind]), Bench.STATE);
            Bench.due("a sixth that is ALLOW", b.clause("+p(1)"), Bench.UNSUPPORTED);
            Bench.due("a sixth that is none", b.clause("p(1"), Bench.ARGUMENT);
            Bench.due("count(3)", b.count(3), 5);
            Bench.due("issue(1)", b.issue(1), 0);
            for (int i = 1; i <= 5; i++) {
                Bench.due("clause " + i + " of the next block", b.clause(texts[kind]), kind);
            }
            Bench.due("a sixth clause of the next block", b.clause(texts[kind]), Bench.STATE);
        }
        for (int there = 0; there <= 5; there++) {
            Bench b = new Bench();
            for (int i = 0; i < there; i++) {
                b.clause("p");
            }
            Bench.due("ALLOW behind " + there, b.clause("+p"), Bench.UNSUPPORTED);
            Bench.due("DENY behind " + there, b.clause("-p"), Bench.UNSUPPORTED);
            Bench.due("count(3)", b.count(3), there);
        }
    }

    /** "THE DESK has at most 10 clauses, of any kind." */
    private static void tenClauses() {
        String[] texts = {"p(1)", "q=p(1)", "?p(1)", "!p(1)", "+p(1)", "-p(1)"};
        for (int kind = 0; kind < texts.length; kind++) {
            Bench b = new Bench();
            for (int i = 1; i <= 10; i++) {
                Bench.due("clause " + i + " of the desk", b.desk(texts[kind]), kind);
                Bench.due("count(4)", b.count(4), i);
            }
            Bench.due("an eleventh clause", b.desk(texts[kind]), Bench.STATE);
            Bench.due("an eleventh that is none", b.desk("p(1"), Bench.ARGUMENT);
            Bench.due("count(4)", b.count(4), 10);
            Bench.due("the block has its own room", b.clause("p"), 0);
        }
    }

    private static void clearing() {
        Bench b = new Bench();
        b.clear();
        Bench.due("clear() of an empty desk", b.count(4), 0);
        for (int turn = 0; turn < 2; turn++) {
            for (int i = 1; i <= 10; i++) {
                Bench.due("clause " + i + " of the desk", b.desk("p"), 0);
            }
            Bench.due("an eleventh clause", b.desk("p"), Bench.STATE);
            b.clear();
            Bench.due("clear() of a full desk", b.count(4), 0);
            Bench.due("the line stays", b.count(5), 1);
        }
        for (int i = 0; i < 5; i++) {
            b.clause("p");
        }
        b.clear();
        Bench.due("the block stays", b.count(3), 5);
    }
}
