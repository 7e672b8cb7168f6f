/** One object under test with short ways to call it, and a tally of the answers that were not due. */
final class Bench {
    /** Stand for an exception as an answer; no call of the face answers these. */
    static final int ARGUMENT = -1001;
    static final int UNSUPPORTED = -1002;
    static final int STATE = -1003;
    static final int INDEX = -1004;
    static final int OTHER = -1005;

    private static int asked = 0;
    private static int wrong = 0;

    /** What later calls of one object answer is free. */
    private static final int CALLS = 512;

    private final GrantChain chain = new GrantChain();
    private int calls = 0;

    interface Call {
        int answer();
    }

    static void due(String what, long got, long want) {
        asked++;
        if (got != want) {
            wrong++;
            System.out.println(what + " answered " + name(got) + ", due is " + name(want));
        }
    }

    /** Ends the test's program. */
    static void close() {
        if (asked == 0 || wrong != 0) {
            System.out.println(wrong + " of " + asked + " answers are not as due");
            System.exit(1);
        }
    }

    static String name(long answer) {
        if (answer == ARGUMENT) {
            return "throws.IllegalArgumentException";
        }
        if (answer == UNSUPPORTED) {
            return "throws.UnsupportedOperationException";
        }
        if (answer == STATE) {
            return "throws.IllegalStateException";
        }
        if (answer == INDEX) {
            return "throws.IndexOutOfBoundsException";
        }
        return answer == OTHER ? "throws something else" : Long.toString(answer);
    }

    private int answer(Call call) {
        calls++;
        if (calls > CALLS) {
            due("a test's calls of one object", calls, CALLS);
        }
        try {
            return call.answer();
        } catch (RuntimeException e) {
            // An exception of the library's own is one that the program did not throw by a statement of its own.
            boolean own = e.getStackTrace().length > 0 && e.getStackTrace()[0].getClassName().startsWith("GrantChain");
            Class<?> kind = own ? e.getClass() : null;
            return kind == IllegalArgumentException.class ? ARGUMENT
                : kind == UnsupportedOperationException.class ? UNSUPPORTED
                : kind == IllegalStateException.class ? STATE
                : kind == IndexOutOfBoundsException.class ? INDEX : OTHER;
        }
    }

    /** How many calls there may still be. */
    int callsLeft() {
        return CALLS - calls;
    }

    int type(char c) {
        return answer(() -> chain.type(c) ? 1 : 0);
    }

    /** Types a text; answers how many of its characters were taken. */
    int type(String text) {
        int taken = 0;
        for (char c : text.toCharArray()) {
            taken += type(c);
        }
        return taken;
    }

    void wipe() {
        answer(() -> {
            chain.wipe();
            return 0;
        });
    }

    int clause() {
        return answer(chain::clause);
    }

    /** The line becomes the text, and then a clause of the block. */
    int clause(String text) {
        wipe();
        type(text);
        return clause();
    }

    int desk() {
        return answer(chain::desk);
    }

    /** The line becomes the text, and then a clause of the desk. */
    int desk(String text) {
        wipe();
        type(text);
        return desk();
    }

    void clear() {
        answer(() -> {
            chain.clear();
            return 0;
        });
    }

    /** Puts clauses into the block that is being made, all of which are right. */
    Bench block(String... texts) {
        for (String text : texts) {
            if (clause(text) < 0) {
                due("clause " + text, -1, 0);
            }
        }
        return this;
    }

    /** The desk has just these clauses then, all of which are right. */
    Bench onDesk(String... texts) {
        clear();
        for (String text : texts) {
            if (desk(text) < 0) {
                due("desk " + text, -1, 0);
            }
        }
        return this;
    }

    int issue(int root) {
        return answer(() -> chain.issue(root));
    }

    int append(int token) {
        return answer(() -> chain.append(token));
    }

    int seal(int token) {
        return answer(() -> chain.seal(token));
    }

    int tamper(int token, int how, int a, int b) {
        return answer(() -> chain.tamper(token, how, a, b));
    }

    int limits(int most, int more) {
        return answer(() -> chain.limits(most, more) ? 1 : 0);
    }

    int authorize(int token, int root) {
        return answer(() -> chain.authorize(token, root));
    }

    int latest(int what) {
        return answer(() -> chain.latest(what));
    }

    int fact(int k, int what) {
        return answer(() -> chain.fact(k, what));
    }

    int token(int token, int what) {
        return answer(() -> chain.token(token, what));
    }

    int count(int what) {
        return answer(() -> chain.count(what));
    }

    /** The facts of the latest authorize(), as "p(1,2)@3 q@16": behind the @ is the origin. */
    String facts() {
        StringBuilder text = new StringBuilder();
        int facts = latest(1);
        for (int k = 0; k < facts; k++) {
            text.append(k == 0 ? "" : " ").append((char) ('a' + fact(k, 0)));
            int size = fact(k, 1);
            text.append(size == 0 ? "" : "(" + fact(k, 2) + (size == 1 ? "" : "," + fact(k, 3)) + ")");
            text.append('@').append(fact(k, 4));
        }
        return text.toString();
    }

    /** A token as "block next signer | block next signer / open key". */
    String shown(int token) {
        StringBuilder text = new StringBuilder();
        int links = token(token, 0);
        for (int k = 0; k < links; k++) {
            text.append(k == 0 ? "" : " | ").append(token(token, 10 + k)).append(' ').append(token(token, 20 + k));
            text.append(' ').append(token(token, 30 + k));
        }
        return text.append(token(token, 1) == 1 ? " / sealed " : " / open ").append(token(token, 2)).toString();
    }

    static void same(String what, String got, String want) {
        asked++;
        if (!got.equals(want)) {
            wrong++;
            System.out.println(what + " is \"" + got + "\", due is \"" + want + "\"");
        }
    }
}
