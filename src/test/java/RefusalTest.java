/** "A call that is refused or throws changes nothing": each such call, and the order in which it is refused. */
public final class RefusalTest {
    private static final int[] NO_ROOTS = {Integer.MIN_VALUE, -1, 0, 4, 5, Integer.MAX_VALUE};
    private static final String FULL = "z(8)                                    ";

    public static void main(String[] args) {
        theLooksSeeChanges();
        type();
        clause();
        clauseOfAFullBlock();
        desk();
        deskThatIsFull();
        issue();
        append();
        seal();
        tamperOfNoSuchThing();
        tamperOfAFullRoom();
        limits();
        authorize();
        latest();
        fact();
        token();
        count();
        Bench.close();
    }

    /**
     * Something of all: token 0 has an empty block, 1 a link more, 2 is like 1, but sealed, 3 is like 1, but not right.
     * The block that is being made has two clauses, the desk three, the line three characters. MOST is 7, MORE is 3.
     * The latest authorize() was of another desk, and has a CHECK that is not fulfilled.
     */
    private static void busy(Bench b) {
        b.limits(7, 3);
        b.issue(1);
        b.block("a(1)", "b(A)=a(A)").append(0);
        b.seal(1);
        b.tamper(1, 4, 0, 0);
        b.onDesk("e(2)", "?d(1)");
        b.authorize(1, 1);
        b.onDesk("d(1)", "?d(1)", "+d(1)");
        b.block("m(1)", "!m(1)");
        b.type("z(8");
    }

    private static Twins.Past withLine(Twins.Past past, String text) {
        return b -> {
            past.of(b);
            b.wipe();
            b.type(text);
        };
    }

    private static void fullBlock(Bench b) {
        busy(b);
        b.block("m(2)", "m(3)", "?m(4)");
        b.type("z(8");
    }

    private static void fullDesk(Bench b) {
        busy(b);
        for (int i = 0; i < 7; i++) {
            b.desk("-d(2)");
        }
        b.type("z(8");
    }

    /** Token 5 has four links, 6 is like it, but sealed. */
    private static void fourLinks(Bench b) {
        busy(b);
        b.append(1);
        b.append(4);
        b.seal(5);
        b.block("m(5)");
        b.type("z(8");
    }

    private static void fullTokens(Bench b) {
        fourLinks(b);
        for (int i = 7; i < 16; i++) {
            b.issue(1 + i % 3);
        }
        b.block("m(6)");
        b.type("z(8");
    }

    private static void theLooksSeeChanges() {
        Twins.changed("type", RefusalTest::busy, b -> b.type(')'));
        Twins.changed("wipe", RefusalTest::busy, b -> {
            b.wipe();
            return 0;
        });
        Twins.changed("another line", RefusalTest::busy, b -> {
            b.wipe();
            return b.type("z(7");
        });
        Twins.changed("clause", withLine(RefusalTest::busy, "m(2)"), Bench::clause);
        Twins.changed("desk", withLine(RefusalTest::busy, "?m(2)"), Bench::desk);
        Twins.changed("clear", RefusalTest::busy, b -> {
            b.clear();
            return 0;
        });
        Twins.changed("issue", RefusalTest::busy, b -> b.issue(1));
        Twins.changed("append", RefusalTest::busy, b -> b.append(1));
        Twins.changed("seal", RefusalTest::busy, b -> b.seal(1));
        Twins.changed("tamper", RefusalTest::busy, b -> b.tamper(1, 6, 0, 0));
        Twins.changed("MOST", RefusalTest::busy, b -> b.limits(8, 3));
        Twins.changed("MORE", RefusalTest::busy, b -> b.limits(7, 2));
        Twins.changed("authorize", RefusalTest::busy, b -> b.authorize(0, 1));
    }

    private static void type() {
        for (int code : new int[] {0, 10, 31, 127, 128, 255, 256 + 'a', 65535}) {
            Twins.unchanged("type(" + code + ")", RefusalTest::busy, b -> b.type((char) code), 0);
            Twins.unchanged("type(" + code + ") of a full line", withLine(RefusalTest::busy, FULL),
                b -> b.type((char) code), 0);
        }
        for (char c : " a)9~".toCharArray()) {
            Twins.unchanged("type '" + c + "' of a full line", withLine(RefusalTest::busy, FULL), b -> b.type(c), 0);
        }
    }

    private static void clause() {
        for (String text : new String[] {"", " ", "z(8", "z(A)", "z(8)*", "+d(1", "- ", "?d(1),1<2,1<2,1<2"}) {
            Twins.unchanged("clause() of \"" + text + "\"", withLine(RefusalTest::busy, text), Bench::clause,
                Bench.ARGUMENT);
            Twins.unchanged("clause() of \"" + text + "\", and five are there", withLine(RefusalTest::fullBlock, text),
                Bench::clause, Bench.ARGUMENT);
        }
        for (String text : new String[] {"+d(1)", "-d(1)", "+d(1)*", " - d , 1 < 2", "+d(1"}) {
            int due = text.equals("+d(1") ? Bench.ARGUMENT : Bench.UNSUPPORTED;
            Twins.unchanged("clause() of " + text, withLine(RefusalTest::busy, text), Bench::clause, due);
        }
    }

    private static void clauseOfAFullBlock() {
        for (String text : new String[] {"z(8)", "z=d(1)", "?d(1)", "!d(1)", FULL}) {
            Twins.unchanged("clause() of " + text + ", and five are there", withLine(RefusalTest::fullBlock, text),
                Bench::clause, Bench.STATE);
        }
        for (String text : new String[] {"+d(1)", "-d(1)", "+d(A),A/0=1"}) {
            Twins.unchanged("clause() of " + text + ", and five are there", withLine(RefusalTest::fullBlock, text),
                Bench::clause, Bench.UNSUPPORTED);
        }
    }

    private static void desk() {
        for (String text : new String[] {"", " ", "z(8", "z(A)", "z(8)*", "+d(1", "- ", "+d(1),1<2,1<2,1<2"}) {
            Twins.unchanged("desk() of \"" + text + "\"", withLine(RefusalTest::busy, text), Bench::desk,
                Bench.ARGUMENT);
            Twins.unchanged("desk() of \"" + text + "\", and ten are there", withLine(RefusalTest::fullDesk, text),
                Bench::desk, Bench.ARGUMENT);
        }
    }

    private static void deskThatIsFull() {
        for (String text : new String[] {"z(8)", "z=d(1)", "?d(1)", "!d(1)", "+d(1)", "-d(1)", FULL}) {
            Twins.unchanged("desk() of " + text + ", and ten are there", withLine(RefusalTest::fullDesk, text),
                Bench::desk, Bench.STATE);
        }
    }

    private static void issue() {
        for (int root : NO_ROOTS) {
            Twins.unchanged("issue(" + root + ")", RefusalTest::busy, b -> b.issue(root), Bench.ARGUMENT);
            Twins.unchanged("issue(" + root + ") of sixteen", RefusalTest::fullTokens, b -> b.issue(root),
                Bench.ARGUMENT);
        }
        for (int root = 1; root <= 3; root++) {
            int known = root;
            Twins.unchanged("issue(" + root + ") of sixteen", RefusalTest::fullTokens, b -> b.issue(known),
                Bench.STATE);
        }
    }

    private static void append() {
        for (int token : new int[] {Integer.MIN_VALUE, -1, 4, 16, Integer.MAX_VALUE}) {
            Twins.unchanged("append(" + token + ")", RefusalTest::busy, b -> b.append(token), Bench.INDEX);
        }
        for (int token : new int[] {Integer.MIN_VALUE, -1, 16, Integer.MAX_VALUE}) {
            Twins.unchanged("append(" + token + ") of sixteen", RefusalTest::fullTokens, b -> b.append(token),
                Bench.INDEX);
        }
        Twins.unchanged("append to a sealed one", RefusalTest::busy, b -> b.append(2), Bench.STATE);
        Twins.unchanged("append to four links", RefusalTest::fourLinks, b -> b.append(5), Bench.STATE);
        Twins.unchanged("append to four sealed links", RefusalTest::fourLinks, b -> b.append(6), Bench.STATE);
        for (int token = 0; token < 16; token++) {
            int known = token;
            Twins.unchanged("append(" + token + ") of sixteen", RefusalTest::fullTokens, b -> b.append(known),
                Bench.STATE);
        }
    }

    private static void seal() {
        for (int token : new int[] {Integer.MIN_VALUE, -1, 4, 16, Integer.MAX_VALUE}) {
            Twins.unchanged("seal(" + token + ")", RefusalTest::busy, b -> b.seal(token), Bench.INDEX);
        }
        for (int token : new int[] {Integer.MIN_VALUE, -1, 16, Integer.MAX_VALUE}) {
            Twins.unchanged("seal(" + token + ") of sixteen", RefusalTest::fullTokens, b -> b.seal(token),
                Bench.INDEX);
        }
        Twins.unchanged("seal a sealed one", RefusalTest::busy, b -> b.seal(2), Bench.STATE);
        Twins.unchanged("seal four sealed links", RefusalTest::fourLinks, b -> b.seal(6), Bench.STATE);
        for (int token = 0; token < 16; token++) {
            int known = token;
            Twins.unchanged("seal(" + token + ") of sixteen", RefusalTest::fullTokens, b -> b.seal(known),
                Bench.STATE);
        }
    }

    private static void noTamper(Twins.Past past, int token, int how, int x, int y, int due) {
        String name = "tamper(" + token + ", " + how + ", " + x + ", " + y + ")";
        Twins.unchanged(name, past, b -> b.tamper(token, how, x, y), due);
    }

    private static void tamperOfNoSuchThing() {
        for (int token : new int[] {Integer.MIN_VALUE, -1, 4, Integer.MAX_VALUE}) {
            for (int how = 0; how <= 6; how++) {
                noTamper(RefusalTest::busy, token, how, 0, 0, Bench.INDEX);
            }
        }
        for (int how : new int[] {Integer.MIN_VALUE, -1, 7, Integer.MAX_VALUE}) {
            noTamper(RefusalTest::busy, 1, how, 0, 0, Bench.INDEX);
            noTamper(RefusalTest::fullTokens, 1, how, 0, 0, Bench.INDEX);
        }
        for (int link : new int[] {Integer.MIN_VALUE, -1, 2, Integer.MAX_VALUE}) {
            for (int how = 1; how <= 6; how++) {
                noTamper(RefusalTest::busy, 1, how, link, 0, Bench.INDEX);
                noTamper(RefusalTest::fullTokens, 1, how, link, 0, Bench.INDEX);
            }
            for (int how = 1; how <= 2; how++) {
                noTamper(RefusalTest::busy, 1, how, 0, link, Bench.INDEX);
                noTamper(RefusalTest::fullTokens, 1, how, 0, link, Bench.INDEX);
            }
            noTamper(RefusalTest::busy, 2, 6, link, 0, Bench.INDEX);
        }
        noTamper(RefusalTest::busy, 0, 0, 0, 0, Bench.INDEX);
        noTamper(RefusalTest::fullTokens, 0, 0, 0, 0, Bench.INDEX);
        noTamper(RefusalTest::fullTokens, 16, 3, 0, 0, Bench.INDEX);
    }

    private static void tamperOfAFullRoom() {
        for (int how = 0; how <= 6; how++) {
            noTamper(RefusalTest::fullTokens, 1, how, 0, 1, Bench.STATE);
            noTamper(RefusalTest::fullTokens, 2, how, 1, 0, Bench.STATE);
            noTamper(RefusalTest::fullTokens, 5, how, 3, 3, Bench.STATE);
        }
        noTamper(RefusalTest::busy, 2, 6, 0, 0, Bench.STATE);
        noTamper(RefusalTest::busy, 2, 6, 1, 9, Bench.STATE);
        noTamper(RefusalTest::fourLinks, 6, 6, 3, 0, Bench.STATE);
    }

    private static void limits() {
        int[][] wrong = {
            {0, 2}, {31, 2}, {-1, 2}, {Integer.MIN_VALUE, 2}, {Integer.MAX_VALUE, 2},
            {8, 0}, {8, 13}, {8, -1}, {8, Integer.MIN_VALUE}, {8, Integer.MAX_VALUE}, {0, 0}, {31, 13},
        };
        for (int[] pair : wrong) {
            Twins.unchanged("limits(" + pair[0] + ", " + pair[1] + ")", RefusalTest::busy,
                b -> b.limits(pair[0], pair[1]), 0);
        }
    }

    private static void authorize() {
        for (int token : new int[] {Integer.MIN_VALUE, -1, 4, 16, Integer.MAX_VALUE}) {
            for (int root = 0; root <= 4; root++) {
                int known = root;
                Twins.unchanged("authorize(" + token + ", " + root + ")", RefusalTest::busy,
                    b -> b.authorize(token, known), Bench.INDEX);
            }
        }
        for (int root : NO_ROOTS) {
            for (int token = 0; token < 4; token++) {
                int known = token;
                Twins.unchanged("authorize(" + token + ", " + root + ")", RefusalTest::busy,
                    b -> b.authorize(known, root), Bench.ARGUMENT);
            }
        }
    }

    private static void latest() {
        int[] due = {0, -4, 3, 2, 1, 0};
        for (int what = -1; what < 5; what++) {
            int known = what;
            Twins.unchanged("latest(" + what + ")", RefusalTest::busy, b -> b.latest(known), due[what + 1]);
        }
    }

    private static void fact() {
        for (int k : new int[] {Integer.MIN_VALUE, -1, 3, 30, Integer.MAX_VALUE}) {
            Twins.unchanged("fact(" + k + ", 0)", RefusalTest::busy, b -> b.fact(k, 0), Bench.INDEX);
        }
        for (int what : new int[] {Integer.MIN_VALUE, -1, 5, Integer.MAX_VALUE}) {
            Twins.unchanged("fact(0, " + what + ")", RefusalTest::busy, b -> b.fact(0, what), Bench.INDEX);
        }
        Twins.unchanged("fact(2, 4)", RefusalTest::busy, b -> b.fact(2, 4), 16);
    }

    private static void token() {
        for (int token : new int[] {Integer.MIN_VALUE, -1, 4, 16, Integer.MAX_VALUE}) {
            Twins.unchanged("token(" + token + ", 0)", RefusalTest::busy, b -> b.token(token, 0), Bench.INDEX);
        }
        for (int what : new int[] {Integer.MIN_VALUE, -1, 3, 9, 12, 19, 22, 29, 32, 40, Integer.MAX_VALUE}) {
            Twins.unchanged("token(1, " + what + ")", RefusalTest::busy, b -> b.token(1, what), Bench.INDEX);
        }
        Twins.unchanged("token(1, 31)", RefusalTest::busy, b -> b.token(1, 31), 4);
    }

    private static void count() {
        int[] due = {-1, 4, 2, 6, 2, 3, 3, -1};
        for (int what = -1; what < 7; what++) {
            int known = what;
            Twins.unchanged("count(" + what + ")", RefusalTest::busy, b -> b.count(known), due[what + 1]);
        }
    }
}
