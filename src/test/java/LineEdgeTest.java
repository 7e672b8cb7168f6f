/** The edges of promises 1, 2, 3 and 16 and of "Terms": the line, its characters, and how long it may be. */
public final class LineEdgeTest {
    private static final String FORTY_BLANKS = "                                        ";
    /** Its fortieth character tells 12 from 1. */
    private static final String FORTY = "+p(A),A+0+0+0+0+0+0+0+0+0+0+0+0+0+0-0=12";

    public static void main(String[] args) {
        nothingInANewObject();
        everyCharacter();
        everyLength();
        fortyCharactersAreAllRead();
        theFortyFirstIsNotThere();
        anEmptyLine();
        wipingAnyLine();
        whatEmptiesTheLine();
        everyCount();
        Bench.close();
    }

    private static void nothingInANewObject() {
        for (int what = 0; what <= 5; what++) {
            Bench.due("new: count(" + what + ")", new Bench().count(what), what == 2 ? 3 : 0);
        }
        for (int what = 0; what <= 3; what++) {
            Bench.due("new: latest(" + what + ")", new Bench().latest(what), 0);
        }
        Bench.due("new: fact(0, 0)", new Bench().fact(0, 0), Bench.INDEX);
        Bench.due("new: token(0, 0)", new Bench().token(0, 0), Bench.INDEX);
        Bench.due("new: append(0)", new Bench().append(0), Bench.INDEX);
        Bench.due("new: seal(0)", new Bench().seal(0), Bench.INDEX);
        Bench.due("new: tamper(0, 3, 0, 0)", new Bench().tamper(0, 3, 0, 0), Bench.INDEX);
        Bench.due("new: authorize(0, 1)", new Bench().authorize(0, 1), Bench.INDEX);
        Bench.due("new: issue(1)", new Bench().issue(1), 0);
    }

    /** "codes 32 .. 126" */
    private static void everyCharacter() {
        for (int code = 0; code <= Character.MAX_VALUE; code++) {
            int due = code >= 32 && code <= 126 ? 1 : 0;
            Bench b = new Bench();
            Bench.due("type(" + code + ")", b.type((char) code), due);
            Bench.due("count(5) after type(" + code + ")", b.count(5), due);
        }
    }

    /** "false (refused) if [..] forty are there" */
    private static void everyLength() {
        Bench b = new Bench();
        for (int length = 1; length <= 40; length++) {
            Bench.due("character " + length, b.type('x'), 1);
            Bench.due("count(5)", b.count(5), length);
        }
        for (int more = 41; more <= 45; more++) {
            Bench.due("character " + more, b.type('x'), 0);
            Bench.due("count(5)", b.count(5), 40);
        }
    }

    private static int allowed(String text, int value) {
        Bench b = new Bench().block("p(" + value + ")");
        b.issue(1);
        b.type(text);
        b.desk();
        return b.authorize(0, 1);
    }

    private static void fortyCharactersAreAllRead() {
        Bench.due("a line's length", FORTY.length(), 40);
        Bench.due("p(12) of a line of forty", allowed(FORTY, 12), 0);
        Bench.due("p(1) of a line of forty", allowed(FORTY, 1), -6);
        Bench.due("p(1) of a line of thirty-nine", allowed(FORTY.substring(0, 39), 1), 0);
        Bench b = new Bench();
        Bench.due("forty for the block", b.clause("?" + FORTY.substring(1)), 2);
        Bench.due("forty with * at the end", b.clause("?p(A),A+0+0+0+0+0+0+0+0+0+0+0+0+0+0+0=1*"), 2);
        Bench.due("forty with ) at the end", b.clause("?p(A),A+0+0+0+0+0+0+0+0+0+0+0+0+0+0=(1)"), 2);
        Bench.due("blanks, and a fact at the end", b.clause(FORTY_BLANKS.substring(1) + "p"), 0);
        Bench.due("a fact, and blanks", b.clause("p" + FORTY_BLANKS.substring(1)), 0);
    }

    private static void theFortyFirstIsNotThere() {
        Bench.due("a wrong one behind forty", allowed(FORTY + ")", 12), 0);
        Bench.due("a digit behind forty", allowed(FORTY + "3", 12), 0);
        Bench b = new Bench();
        String longer = "?p(A),A+0+0+0+0+0+0+0+0+0+0+0+0+0+0+0+0=1";
        Bench.due("the end of a clause is cut off", b.clause(longer), Bench.ARGUMENT);
        Bench.due("count(5)", b.count(5), 40);
        b.wipe();
        b.type((char) 31);
        b.type("p(");
        b.type((char) 127);
        b.type("1)");
        b.type('\t');
        Bench.due("count(5) without those refused", b.count(5), 4);
        Bench.due("clause() without those refused", b.clause(), 0);
    }

    /** "blanks may stand before and behind each": but they alone are no clause. */
    private static void anEmptyLine() {
        for (int blanks : new int[] {0, 1, 39, 40}) {
            String text = FORTY_BLANKS.substring(40 - blanks);
            Bench b = new Bench();
            Bench.due("clause() of " + blanks + " blanks", b.clause(text), Bench.ARGUMENT);
            Bench.due("desk() of " + blanks + " blanks", b.desk(text), Bench.ARGUMENT);
            Bench.due("count(5) of " + blanks + " blanks", b.count(5), blanks);
        }
    }

    private static void wipingAnyLine() {
        for (int length : new int[] {0, 1, 39, 40}) {
            Bench b = new Bench();
            b.type(FORTY.substring(0, length));
            b.wipe();
            Bench.due("count(5) after wipe()", b.count(5), 0);
            Bench.due("clause() after wipe()", b.clause(), Bench.ARGUMENT);
            Bench.due("forty again", b.type(FORTY + "x"), 40);
            Bench.due("desk() of forty again", b.desk(), 4);
        }
    }

    private static void whatEmptiesTheLine() {
        Bench b = new Bench();
        b.type("p" + FORTY_BLANKS.substring(1));
        Bench.due("clause() of a full line", b.clause(), 0);
        Bench.due("count(5) after clause()", b.count(5), 0);
        b.type("p" + FORTY_BLANKS.substring(1));
        Bench.due("desk() of a full line", b.desk(), 0);
        Bench.due("count(5) after desk()", b.count(5), 0);
        b.type("xy");
        b.clear();
        b.issue(1);
        b.append(0);
        b.seal(0);
        b.tamper(0, 3, 0, 0);
        b.limits(3, 3);
        b.authorize(0, 1);
        Bench.due("count(5) after all the others", b.count(5), 2);
    }

    /** "-1 for another what" */
    private static void everyCount() {
        Bench b = new Bench().block("p").onDesk("p", "q");
        b.type("abc");
        b.issue(1);
        b.seal(0);
        int[] due = {-1, 2, 1, 4, 0, 2, 3, -1};
        for (int what = -1; what <= 6; what++) {
            Bench.due("count(" + what + ")", b.count(what), due[what + 1]);
        }
        for (int what : new int[] {Integer.MIN_VALUE, Integer.MIN_VALUE + 5, 10, 256, Integer.MAX_VALUE}) {
            Bench.due("count(" + what + ")", b.count(what), -1);
        }
    }
}
