/** Promises 7, 8, 9, 10 and 15: issue, append, seal, tamper and token. */
public final class TokenTest {
    public static void main(String[] args) {
        issuing();
        appending();
        sealing();
        tamperingTells();
        tamperingIsFound();
        tamperingThatIsRight();
        linksTurnedRound();
        refusalsOfTamper();
        sixteenTokens();
        telling();
        Bench.close();
    }

    /** Token 0 has a link, token 1 two, token 2 three, all open, for root 2; nothing else is there. */
    private static Bench three() {
        Bench b = new Bench();
        b.block("a").issue(2);
        b.block("b").append(0);
        b.block("c").append(1);
        return b;
    }

    private static void issuing() {
        Bench b = new Bench();
        for (int root : new int[] {Integer.MIN_VALUE, -1, 0, 4, 5, Integer.MAX_VALUE}) {
            Bench.due("issue(" + root + ")", b.issue(root), Bench.ARGUMENT);
        }
        Bench.due("refused: keys", b.count(2), 3);
        Bench.due("refused: blocks", b.count(1), 0);
        b.block("a", "b");
        for (int root = 1; root <= 3; root++) {
            Bench.due("issue(" + root + ")", b.issue(root), root - 1);
            Bench.same("its token", b.shown(root - 1), root + " " + (root + 3) + " " + root + " / open " + (root + 3));
            Bench.due("the block is new", b.count(3), 0);
            for (int other = 1; other <= 3; other++) {
                Bench.due("authorize", b.authorize(root - 1, other), other == root ? -6 : -1);
            }
        }
        b.authorize(0, 1);
        Bench.same("facts of the first", b.facts(), "a@1 b@1");
        b.authorize(1, 2);
        Bench.same("facts of the second", b.facts(), "");
    }

    private static void appending() {
        Bench b = three();
        Bench.same("token 0 stays", b.shown(0), "1 4 2 / open 4");
        Bench.same("token 1 stays", b.shown(1), "1 4 2 | 2 5 4 / open 5");
        Bench.same("token 2", b.shown(2), "1 4 2 | 2 5 4 | 3 6 5 / open 6");
        Bench.due("append to the first again", b.append(0), 3);
        Bench.same("token 3", b.shown(3), "1 4 2 | 4 7 4 / open 7");
        Bench.due("append a fourth link", b.append(2), 4);
        Bench.same("token 4", b.shown(4), "1 4 2 | 2 5 4 | 3 6 5 | 5 8 6 / open 8");
        b.block("d");
        Bench.due("append a fifth link", b.append(4), Bench.STATE);
        for (int token : new int[] {Integer.MIN_VALUE, -1, 5, 16, Integer.MAX_VALUE}) {
            Bench.due("append(" + token + ")", b.append(token), Bench.INDEX);
        }
        int[] counts = {5, 5, 8, 1, 0, 0};
        for (int what = 0; what < counts.length; what++) {
            Bench.due("refused: count(" + what + ")", b.count(what), counts[what]);
        }
        for (int token = 0; token < 5; token++) {
            Bench.due("authorize(" + token + ", 2)", b.authorize(token, 2), -6);
            Bench.due("authorize(" + token + ", 1)", b.authorize(token, 1), -1);
        }
        b.authorize(2, 2);
        Bench.same("facts of token 2", b.facts(), "a@1 b@2 c@4");
        Bench.due("append to a tampered one", b.tamper(2, 0, 0, 0), 5);
        Bench.due("append to a tampered one", b.append(5), 6);
        Bench.same("signed with the proof's key", b.shown(6), "1 4 2 | 2 5 4 | 6 9 6 / open 9");
        Bench.due("it is not right", b.authorize(6, 2), -1);
    }

    private static void sealing() {
        Bench b = three();
        b.block("d");
        for (int token : new int[] {Integer.MIN_VALUE, -1, 3, Integer.MAX_VALUE}) {
            Bench.due("seal(" + token + ")", b.seal(token), Bench.INDEX);
        }
        Bench.due("seal(1)", b.seal(1), 3);
        Bench.same("the sealed one", b.shown(3), "1 4 2 | 2 5 4 / sealed 5");
        Bench.same("the other stays", b.shown(1), "1 4 2 | 2 5 4 / open 5");
        Bench.due("no new key", b.count(2), 6);
        Bench.due("no new block", b.count(1), 3);
        Bench.due("the block stays", b.count(3), 1);
        Bench.due("it is right", b.authorize(3, 2), -6);
        Bench.due("but not for another root", b.authorize(3, 1), -1);
        Bench.due("append to a sealed one", b.append(3), Bench.STATE);
        Bench.due("seal a sealed one", b.seal(3), Bench.STATE);
        Bench.due("nothing was made", b.count(0), 4);
        b.append(2);
        Bench.due("seal one with four links", b.seal(4), 5);
        Bench.due("it is right", b.authorize(5, 2), -6);
        Bench.due("append to the sealed four", b.append(5), Bench.STATE);
    }

    private static void tamperingTells() {
        String[] open = {
            "1 4 2 | 2 5 4 / open 6", "2 4 2 | 1 5 4 | 3 6 5 / open 6", "2 5 4 | 1 4 2 | 3 6 5 / open 6",
            "4 4 2 | 2 5 4 | 3 6 5 / open 6", "1 8 2 | 2 5 4 | 3 6 5 / open 6", "1 8 2 / open 8",
            "1 4 6 | 2 5 4 | 3 6 5 / open 6",
        };
        for (int how = 0; how < open.length; how++) {
            Bench b = three();
            b.issue(1);
            Bench.due("tamper " + how, b.tamper(2, how, 0, 1), 4);
            Bench.same("tampered " + how, b.shown(4), open[how]);
            Bench.same("the other stays", b.shown(2), "1 4 2 | 2 5 4 | 3 6 5 / open 6");
            Bench.due("keys", b.count(2), how == 4 || how == 5 ? 8 : 7);
            Bench.due("blocks", b.count(1), 4);
        }
        String[] sealed = {
            "1 4 2 | 2 5 4 / sealed 6", "1 4 2 | 3 5 4 | 2 6 5 / sealed 6", "1 4 2 | 3 6 5 | 2 5 4 / sealed 6",
            "1 4 2 | 2 5 4 | 3 6 5 / sealed 6", "1 4 2 | 2 5 4 | 3 7 5 / sealed 6", "1 4 2 | 2 5 4 | 3 7 5 / open 7",
        };
        for (int how = 0; how < sealed.length; how++) {
            Bench b = three();
            b.seal(2);
            b.block("x");
            Bench.due("tamper sealed " + how, b.tamper(3, how, 2, 1), 4);
            Bench.same("tampered sealed " + how, b.shown(4), sealed[how]);
            Bench.due("the block stays", b.count(3), 1);
        }
    }

    private static void tamperingIsFound() {
        for (int how = 0; how <= 6; how++) {
            for (int a = 0; a < 3; a++) {
                Bench b = three();
                b.issue(1);
                b.tamper(2, how, a, (a + 1) % 3);
                Bench.due("authorize after tamper " + how + " of link " + a, b.authorize(4, 2), -1);
                Bench.due("the other is right", b.authorize(2, 2), -6);
                if (how != 6) {
                    b.seal(2);
                    b.tamper(5, how, a, (a + 1) % 3);
                    Bench.due("sealed, after tamper " + how + " of link " + a, b.authorize(6, 2), -1);
                }
            }
        }
        Bench b = three();
        b.seal(2);
        b.tamper(3, 5, 2, 0);
        Bench.due("a seal that was opened can be appended to", b.append(4), 5);
        Bench.due("but is not right", b.authorize(5, 2), -1);
        Bench.due("nor what was sealed anew", b.seal(4), 6);
        Bench.due("authorize", b.authorize(6, 2), -1);
    }

    private static void tamperingThatIsRight() {
        Bench b = three();
        for (int k = 0; k < 3; k++) {
            Bench.due("blocks with themselves", b.authorize(b.tamper(2, 1, k, k), 2), -6);
            Bench.due("links with themselves", b.authorize(b.tamper(2, 2, k, k), 2), -6);
        }
        Bench.due("the last block is the latest", b.authorize(b.tamper(2, 3, 2, 0), 2), -6);
        int sealed = b.seal(2);
        Bench.due("a sealed one's link with itself", b.authorize(b.tamper(sealed, 2, 1, 1), 2), -6);
        int swapped = b.tamper(2, 1, 0, 2);
        Bench.due("blocks swapped", b.authorize(swapped, 2), -1);
        Bench.due("and swapped back", b.authorize(b.tamper(swapped, 1, 2, 0), 2), -6);

        Bench back = three();
        int links = back.tamper(2, 2, 1, 2);
        Bench.due("links swapped", back.authorize(links, 2), -1);
        Bench.due("and swapped back", back.authorize(back.tamper(links, 2, 2, 1), 2), -6);
        int cut = back.tamper(2, 0, 0, 0);
        back.tamper(cut, 0, 7, -7);
        Bench.same("twice without its last link", back.shown(6), "1 4 2 / open 6");
    }

    private static void linksTurnedRound() {
        Bench b = three();
        int turned = b.tamper(2, 2, 0, 2);
        Bench.same("links 0 and 2 swapped", b.shown(turned), "3 6 5 | 2 5 4 | 1 4 2 / open 6");
        int cut = b.tamper(b.tamper(turned, 0, 0, 0), 0, 0, 0);
        Bench.same("what was the last link, alone", b.shown(cut), "3 6 5 / open 6");
        Bench.due("signed by no root", b.authorize(cut, 2), -1);
        Bench.due("signed anew, still by no root", b.authorize(b.tamper(cut, 6, 0, 0), 2), -1);
        Bench.due("sealed, still by no root", b.authorize(b.seal(cut), 2), -1);
    }

    private static void refusalsOfTamper() {
        Bench b = three();
        b.seal(2);
        for (int token : new int[] {Integer.MIN_VALUE, -1, 4, Integer.MAX_VALUE}) {
            for (int how = 0; how <= 6; how++) {
                Bench.due("tamper(" + token + ", ..)", b.tamper(token, how, 0, 0), Bench.INDEX);
            }
        }
        for (int how : new int[] {Integer.MIN_VALUE, -1, 7, 8, Integer.MAX_VALUE}) {
            Bench.due("tamper(2, " + how + ", ..)", b.tamper(2, how, 0, 0), Bench.INDEX);
        }
        for (int link : new int[] {Integer.MIN_VALUE, -1, 3, 4, Integer.MAX_VALUE}) {
            for (int how = 1; how <= 6; how++) {
                Bench.due("tamper(2, " + how + ", " + link + ", 0)", b.tamper(2, how, link, 0), Bench.INDEX);
            }
            Bench.due("tamper(2, 1, 0, " + link + ")", b.tamper(2, 1, 0, link), Bench.INDEX);
            Bench.due("tamper(2, 2, 0, " + link + ")", b.tamper(2, 2, 0, link), Bench.INDEX);
            Bench.due("sealed, 6, no such link", b.tamper(3, 6, link, 0), Bench.INDEX);
        }
        Bench.due("without its only link", b.tamper(0, 0, 0, 0), Bench.INDEX);
        Bench.due("signed anew, but sealed", b.tamper(3, 6, 0, 0), Bench.STATE);
        Bench.due("nothing was made", b.count(0), 4);
        Bench.due("no key was made", b.count(2), 6);
        Bench.due("b does not count for 3", b.tamper(2, 3, 0, 99), 4);
        Bench.due("b does not count for 4", b.tamper(2, 4, 0, -99), 5);
        Bench.due("b does not count for 5", b.tamper(2, 5, 0, 3), 6);
        Bench.due("b does not count for 6", b.tamper(2, 6, 0, 3), 7);
        Bench.due("a and b do not count for 0", b.tamper(2, 0, -1, 99), 8);
    }

    private static void sixteenTokens() {
        Bench b = three();
        b.seal(2);
        for (int i = 4; i < 16; i++) {
            Bench.due("a token more", b.issue(1), i);
        }
        b.block("x");
        Bench.due("issue(1)", b.issue(1), Bench.STATE);
        Bench.due("issue(0)", b.issue(0), Bench.ARGUMENT);
        Bench.due("append(0)", b.append(0), Bench.STATE);
        Bench.due("append(16)", b.append(16), Bench.INDEX);
        Bench.due("seal(0)", b.seal(0), Bench.STATE);
        Bench.due("seal(16)", b.seal(16), Bench.INDEX);
        for (int how = 0; how <= 6; how++) {
            Bench.due("tamper(2, " + how + ", 0, 0)", b.tamper(2, how, 0, 0), Bench.STATE);
            Bench.due("tamper(16, " + how + ", 0, 0)", b.tamper(16, how, 0, 0), Bench.INDEX);
        }
        Bench.due("tamper(0, 0, 0, 0)", b.tamper(0, 0, 0, 0), Bench.INDEX);
        Bench.due("tamper(2, 7, 0, 0)", b.tamper(2, 7, 0, 0), Bench.INDEX);
        int[] counts = {16, 15, 18, 1, 0, 0};
        for (int what = 0; what < counts.length; what++) {
            Bench.due("full: count(" + what + ")", b.count(what), counts[what]);
        }
        Bench.due("the last one is right", b.authorize(15, 1), -6);
    }

    private static void telling() {
        Bench b = three();
        b.seal(1);
        int[] whats = {0, 1, 2, 10, 11, 20, 21, 30, 31};
        int[] answers = {2, 1, 5, 1, 2, 4, 5, 2, 4};
        for (int i = 0; i < whats.length; i++) {
            Bench.due("token(3, " + whats[i] + ")", b.token(3, whats[i]), answers[i]);
        }
        int[] wrong = {Integer.MIN_VALUE, -10, -1, 3, 4, 9, 12, 13, 14, 19, 22, 29, 32, 33, 39, 40, 41, 100, 110,
            Integer.MAX_VALUE};
        for (int what : wrong) {
            Bench.due("token(3, " + what + ")", b.token(3, what), Bench.INDEX);
        }
        for (int token : new int[] {Integer.MIN_VALUE, -1, 4, Integer.MAX_VALUE}) {
            Bench.due("token(" + token + ", 0)", b.token(token, 0), Bench.INDEX);
        }
        Bench.due("open: token(2, 1)", b.token(2, 1), 0);
        b.append(2);
        Bench.due("four links: token(4, 13)", b.token(4, 13), 4);
        Bench.due("four links: token(4, 23)", b.token(4, 23), 7);
        Bench.due("four links: token(4, 33)", b.token(4, 33), 6);
        Bench.due("four links: token(4, 14)", b.token(4, 14), Bench.INDEX);
    }
}
