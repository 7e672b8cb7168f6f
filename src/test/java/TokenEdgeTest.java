/** The edges of promises 7 to 10 and 15 and of "Terms": roots, tokens, links, keys and blocks. */
public final class TokenEdgeTest {
    private static final int BAD = -1;
    private static final int NONE = -6;

    public static void main(String[] args) {
        everyRoot();
        emptyBlocks();
        numbersOfBlocksAndKeys();
        sixteenByEachCall();
        orderOfRefusals();
        fourLinks();
        fourLinksSealed();
        sealedOnes();
        linksOfTamper();
        waysOfTamper();
        downToOneLink();
        whatATokenTells();
        whatMakesATokenBad();
        Bench.close();
    }

    /** Tokens 0 .. links - 1 have 1, 2, .. links, for root 1: blocks 1, 2, .. and NEXT keys 4, 5, .. */
    private static Bench grown(int links) {
        Bench b = new Bench();
        b.block("f(0)").issue(1);
        for (int i = 1; i < links; i++) {
            b.block("f(" + i + ")").append(i - 1);
        }
        return b;
    }

    /** "with a root (1 .. 3)" */
    private static void everyRoot() {
        for (int root = -2; root <= 6; root++) {
            boolean right = root >= 1 && root <= 3;
            Bench b = new Bench().block("p");
            Bench.due("issue(" + root + ")", b.issue(root), right ? 0 : Bench.ARGUMENT);
            Bench.due("count(0)", b.count(0), right ? 1 : 0);
            Bench.due("count(1)", b.count(1), right ? 1 : 0);
            Bench.due("count(2)", b.count(2), right ? 4 : 3);
            Bench.due("count(3)", b.count(3), right ? 0 : 1);
            for (int asked = -1; asked <= 5; asked++) {
                boolean known = asked >= 1 && asked <= 3;
                int due = !right ? Bench.INDEX : !known ? Bench.ARGUMENT : asked == root ? NONE : BAD;
                Bench.due("authorize(0, " + asked + ")", b.authorize(0, asked), due);
            }
        }
        for (int root : new int[] {Integer.MIN_VALUE, Integer.MAX_VALUE, 257, -255}) {
            Bench.due("issue(" + root + ")", new Bench().issue(root), Bench.ARGUMENT);
            Bench.due("authorize(0, " + root + ")", grown(1).authorize(0, root), Bench.ARGUMENT);
        }
    }

    private static void emptyBlocks() {
        Bench b = new Bench();
        Bench.due("issue of an empty block", b.issue(1), 0);
        Bench.due("append of an empty block", b.append(0), 1);
        Bench.same("its token", b.shown(1), "1 4 1 | 2 5 4 / open 5");
        Bench.due("authorize", b.authorize(1, 1), NONE);
        Bench.due("no facts", b.latest(1), 0);
        Bench.due("one round", b.latest(2), 1);
    }

    /** "they are numbered 1, 2, .. as they are made", "others 4, 5, .. as they are made" */
    private static void numbersOfBlocksAndKeys() {
        Bench b = new Bench();
        int[][] due = {
            {b.issue(3), 1, 4}, {b.append(0), 2, 5}, {b.seal(1), 2, 5}, {b.tamper(1, 0, 0, 0), 2, 5},
            {b.tamper(1, 1, 0, 1), 2, 5}, {b.tamper(1, 2, 0, 1), 2, 5}, {b.tamper(1, 3, 0, 0), 2, 5},
            {b.tamper(1, 6, 0, 0), 2, 5}, {b.tamper(1, 4, 0, 0), 2, 6}, {b.tamper(1, 5, 0, 0), 2, 7},
            {b.issue(1), 3, 8}, {b.append(9), 4, 9},
        };
        for (int token = 0; token < due.length; token++) {
            Bench.due("the number of token " + token, due[token][0], token);
        }
        Bench.due("blocks", b.count(1), 4);
        Bench.due("keys", b.count(2), 9);
        Bench.same("the key of tamper 4", b.shown(8), "1 6 3 | 2 5 4 / open 5");
        Bench.same("the key of tamper 5", b.shown(9), "1 7 3 / open 7");
        Bench.same("a block and a key more", b.shown(10), "3 8 1 / open 8");
        Bench.same("signed with the proof's key", b.shown(11), "1 7 3 | 4 9 7 / open 9");
        while (b.count(0) < 16) {
            b.issue(2);
        }
        Bench.same("the last of sixteen", b.shown(15), "8 13 2 / open 13");
    }

    private static int make(Bench b, int way) {
        return way == 0 ? b.issue(1) : way == 1 ? b.append(1) : way == 2 ? b.seal(1) : b.tamper(1, way - 3, 0, 1);
    }

    /** "A TOKEN (numbered 0, 1, .., at most 16)" */
    private static void sixteenByEachCall() {
        for (int way = 0; way <= 9; way++) {
            Bench b = grown(2);
            for (int token = 2; token < 16; token++) {
                Bench.due("way " + way + " to token " + token, make(b, way), token);
                Bench.due("count(0)", b.count(0), token + 1);
            }
            int blocks = b.count(1);
            int keys = b.count(2);
            b.block("x");
            for (int other = 0; other <= 9; other++) {
                Bench.due("way " + other + " to a seventeenth", make(b, other), Bench.STATE);
            }
            int[] due = {16, blocks, keys, 1};
            for (int what = 0; what < due.length; what++) {
                Bench.due("count(" + what + ") then", b.count(what), due[what]);
            }
            Bench.due("token 15 is there", b.token(15, 0) > 0 ? 1 : 0, 1);
            Bench.due("token 16 is not", b.token(16, 0), Bench.INDEX);
            Bench.due("authorize(16, 1)", b.authorize(16, 1), Bench.INDEX);
            Bench.due("authorize(1, 1)", b.authorize(1, 1), NONE);
        }
    }

    /** "else": what is looked at first where two things are wrong. */
    private static void orderOfRefusals() {
        Bench b = grown(4);
        b.seal(3);
        Bench.due("6 of a sealed one, no such link", b.tamper(4, 6, 4, 0), Bench.INDEX);
        Bench.due("6 of a sealed one, the last link", b.tamper(4, 6, 3, 0), Bench.STATE);
        Bench.due("no such token, no such root", b.authorize(5, 0), Bench.INDEX);
        while (b.count(0) < 16) {
            b.seal(0);
        }
        Bench.due("no such root, and sixteen", b.issue(4), Bench.ARGUMENT);
        Bench.due("no such root, and sixteen", b.issue(0), Bench.ARGUMENT);
        Bench.due("no such token, and sixteen: append", b.append(16), Bench.INDEX);
        Bench.due("no such token, and sixteen: append", b.append(-1), Bench.INDEX);
        Bench.due("no such token, and sixteen: seal", b.seal(16), Bench.INDEX);
        Bench.due("no such token, and sixteen: seal", b.seal(-1), Bench.INDEX);
        Bench.due("no such token, and sixteen: tamper", b.tamper(16, 0, 0, 0), Bench.INDEX);
        Bench.due("no such how, and sixteen", b.tamper(3, 7, 0, 0), Bench.INDEX);
        Bench.due("no such how, and sixteen", b.tamper(3, -1, 0, 0), Bench.INDEX);
        Bench.due("no such link, and sixteen", b.tamper(3, 3, 4, 0), Bench.INDEX);
        Bench.due("no such second link, and sixteen", b.tamper(3, 1, 0, 4), Bench.INDEX);
        Bench.due("no link would be left, and sixteen", b.tamper(0, 0, 0, 0), Bench.INDEX);
        Bench.due("sealed, and sixteen: append", b.append(4), Bench.STATE);
        Bench.due("sealed, and sixteen: seal", b.seal(4), Bench.STATE);
        Bench.due("sealed, and sixteen: tamper 6", b.tamper(4, 6, 0, 0), Bench.STATE);
        Bench.due("four links, and sixteen: append", b.append(3), Bench.STATE);
    }

    /** "has 1 to 4 LINKS" */
    private static void fourLinks() {
        Bench b = grown(4);
        for (int token = 0; token < 4; token++) {
            Bench.due("links of token " + token, b.token(token, 0), token + 1);
            Bench.due("authorize(" + token + ", 1)", b.authorize(token, 1), NONE);
            Bench.due("its facts", b.latest(1), token + 1);
        }
        Bench.same("its facts", b.facts(), "f(0)@1 f(1)@2 f(2)@4 f(3)@8");
        b.block("x");
        Bench.due("a fifth link", b.append(3), Bench.STATE);
        Bench.due("count(0)", b.count(0), 4);
        Bench.due("count(1)", b.count(1), 4);
        Bench.due("count(2)", b.count(2), 7);
        Bench.due("count(3)", b.count(3), 1);
        Bench.due("four without the last", b.tamper(3, 0, 0, 0), 4);
        Bench.due("can have a fourth again", b.append(4), 5);
        Bench.due("but no fifth", b.append(5), Bench.STATE);
        Bench.due("four cut behind the third", b.tamper(3, 5, 2, 0), 6);
        Bench.due("can have a fourth again", b.append(6), 7);
        Bench.due("four cut behind the fourth", b.tamper(3, 5, 3, 0), 8);
        Bench.due("cannot have a fifth", b.append(8), Bench.STATE);
        Bench.due("three can have a fourth twice", b.append(2), 9);
        Bench.due("and it is right", b.authorize(9, 1), NONE);
    }

    /** "IllegalStateException (but for four links) as with append()" */
    private static void fourLinksSealed() {
        for (int links = 1; links <= 4; links++) {
            Bench b = grown(links);
            int sealed = b.seal(links - 1);
            Bench.due("seal of " + links + " links", sealed, links);
            Bench.due("its links", b.token(sealed, 0), links);
            Bench.due("it is sealed", b.token(sealed, 1), 1);
            Bench.due("with the last NEXT key", b.token(sealed, 2), 3 + links);
            Bench.due("it is right", b.authorize(sealed, 1), NONE);
            Bench.due("its facts", b.latest(1), links);
            Bench.due("for its root alone", b.authorize(sealed, 2), BAD);
        }
    }

    private static void sealedOnes() {
        for (int links = 1; links <= 4; links++) {
            Bench b = grown(links);
            int sealed = b.seal(links - 1);
            Bench.due("append to a sealed one", b.append(sealed), Bench.STATE);
            Bench.due("seal of a sealed one", b.seal(sealed), Bench.STATE);
            Bench.due("tamper 6 of a sealed one", b.tamper(sealed, 6, 0, 0), Bench.STATE);
            Bench.due("count(0)", b.count(0), links + 1);
            Bench.due("what it was made of is open", b.token(links - 1, 1), 0);
            for (int how = 0; how <= 4; how++) {
                int made = b.tamper(sealed, how, 0, 0);
                boolean refused = how == 0 && links == 1;
                Bench.due("tamper " + how, made < 0 ? made : 0, refused ? Bench.INDEX : 0);
                Bench.due("it is sealed as well", refused ? 1 : b.token(made, 1), 1);
            }
            int open = b.tamper(sealed, 5, links - 1, 0);
            Bench.due("tamper 5 opens it", b.token(open, 1), 0);
            Bench.due("and then 6 is no longer refused", b.tamper(open, 6, 0, 0), open + 1);
            Bench.due("nor is seal", b.seal(open), open + 2);
            Bench.due("but it is BAD", b.authorize(open + 2, 1), BAD);
        }
    }

    /** "no such [..] link" */
    private static void linksOfTamper() {
        int[] indices = {Integer.MIN_VALUE, -1, 0, 1, 2, 3, 4, 5, Integer.MAX_VALUE};
        for (int links = 1; links <= 4; links++) {
            for (int how = 0; how <= 6; how++) {
                for (int one : indices) {
                    for (int other : indices) {
                        tamperOf(links, how, one, other);
                    }
                }
            }
        }
    }

    private static void tamperOf(int links, int how, int one, int other) {
        boolean first = one >= 0 && one < links;
        boolean second = other >= 0 && other < links;
        boolean right = how == 0 ? links > 1 : how <= 2 ? first && second : first;
        Bench b = grown(links);
        String name = "tamper(" + (links - 1) + ", " + how + ", " + one + ", " + other + ")";
        Bench.due(name, b.tamper(links - 1, how, one, other), right ? links : Bench.INDEX);
        Bench.due(name + ": count(0)", b.count(0), right ? links + 1 : links);
        Bench.due(name + ": keys", b.count(2), 3 + links + (right && (how == 4 || how == 5) ? 1 : 0));
        if (right) {
            Bench.due(name + ": links", b.token(links, 0), how == 0 ? links - 1 : how == 5 ? one + 1 : links);
        }
    }

    /** "no such [..] how" */
    private static void waysOfTamper() {
        for (int how = -3; how <= 10; how++) {
            Bench b = grown(2);
            Bench.due("tamper(1, " + how + ", 0, 0)", b.tamper(1, how, 0, 0), how >= 0 && how <= 6 ? 2 : Bench.INDEX);
        }
        for (int how : new int[] {Integer.MIN_VALUE, Integer.MAX_VALUE, 256, -250}) {
            Bench.due("tamper(1, " + how + ", 0, 0)", grown(2).tamper(1, how, 0, 0), Bench.INDEX);
        }
    }

    /** "or it would have no link" */
    private static void downToOneLink() {
        Bench b = grown(4);
        int token = 3;
        for (int links = 3; links >= 1; links--) {
            token = b.tamper(token, 0, 9, -9);
            Bench.due("links without the last", b.token(token, 0), links);
            Bench.due("the proof is the same", b.token(token, 2), 7);
        }
        int tokens = b.count(0);
        Bench.due("without its only link", b.tamper(token, 0, 0, 0), Bench.INDEX);
        Bench.due("nothing was made", b.count(0), tokens);
    }

    /** "no such token, link or what" */
    private static void whatATokenTells() {
        for (int links = 1; links <= 4; links++) {
            Bench b = grown(links);
            for (int what = -12; what <= 45; what++) {
                int k = what % 10;
                boolean link = what >= 10 && what < 40 && k < links;
                int due = what == 0 ? links : what == 1 ? 0 : what == 2 ? links + 3 : Bench.INDEX;
                if (link) {
                    due = what < 20 ? k + 1 : what < 30 ? k + 4 : k == 0 ? 1 : k + 3;
                }
                Bench.due("token(" + (links - 1) + ", " + what + ")", b.token(links - 1, what), due);
            }
            Bench.due("token(-1, 0)", b.token(-1, 0), Bench.INDEX);
            Bench.due("token(" + links + ", 0)", b.token(links, 0), Bench.INDEX);
            for (int wrong : new int[] {Integer.MIN_VALUE, Integer.MIN_VALUE + 1, 100, 266, Integer.MAX_VALUE}) {
                Bench.due("token(0, " + wrong + ")", b.token(0, wrong), Bench.INDEX);
                Bench.due("token(" + wrong + ", 0)", b.token(wrong, 0), Bench.INDEX);
            }
        }
    }

    /** "A token is RIGHT for a root, if [..]": one thing that is wrong is enough. */
    private static void whatMakesATokenBad() {
        for (int links = 1; links <= 4; links++) {
            int last = links - 1;
            for (int k = 0; k < links; k++) {
                Bench b = grown(links);
                b.issue(1);
                Bench.due("another block", b.authorize(b.tamper(last, 3, k, 0), 1), BAD);
                Bench.due("another NEXT key", b.authorize(b.tamper(last, 4, k, 0), 1), BAD);
                Bench.due("another NEXT key and its proof", b.authorize(b.tamper(last, 5, k, 0), 1), BAD);
                Bench.due("another signature", b.authorize(b.tamper(last, 6, k, 0), 1), BAD);
                int other = (k + 1) % links;
                int due = other == k ? NONE : BAD;
                Bench.due("blocks " + k + " and " + other, b.authorize(b.tamper(last, 1, k, other), 1), due);
                Bench.due("links " + k + " and " + other, b.authorize(b.tamper(last, 2, k, other), 1), due);
                Bench.due("it itself is right", b.authorize(last, 1), NONE);
            }
            if (links > 1) {
                Bench b = grown(links);
                int cut = b.tamper(last, 0, 0, 0);
                Bench.due("open with another key", b.authorize(cut, 1), BAD);
                Bench.due("sealed with another key", b.authorize(b.seal(cut), 1), BAD);
                Bench.due("a seal of more links", b.authorize(b.tamper(b.seal(last), 0, 0, 0), 1), BAD);
                Bench.due("signed with another key", b.authorize(b.append(cut), 1), BAD);
            }
        }
    }
}
