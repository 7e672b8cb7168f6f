import java.util.HashMap;
import java.util.Map;
import java.util.Random;

/** Promises 1 to 16: long runs of calls by chance, from fixed seeds, each answer held against the Model's. */
public final class RandomTest {
    private static final int RUNS = 8000;
    /** More than the line can hold, so that some of it is refused. */
    private static final int LONGEST_TEXT = 60;
    /** Typing a text, making a clause of it, and clearing away what was refused. */
    private static final int CALLS_OF_A_STEP = LONGEST_TEXT + 3;
    private static final String SIGNS = "pqABH019-+*/<>=#(),?! ";
    /** Numbers whose sums and products lie at the edges of what a value may be, or just beyond. */
    private static final int[] EDGES = {9, 10, 99, 100, 250, 271, 369, 400, 1000, 4295, 6553, 9999};

    private final Random random;
    private final Bench bench = new Bench();
    private final Model model = new Model();
    private final String name;
    /** A run with many tokens, and not so many clauses. */
    private final boolean manyTokens;
    /** How often each call had each answer. */
    private final Map<String, Integer> answers;
    private int calls;

    private RandomTest(long seed, Map<String, Integer> answers) {
        random = new Random(seed);
        this.answers = answers;
        name = "run " + seed + ": ";
        manyTokens = seed % 4 == 0;
    }

    public static void main(String[] args) {
        Map<String, Integer> answers = new HashMap<>();
        for (int run = 0; run < RUNS; run++) {
            new RandomTest(run, answers).run();
        }
        // Runs by chance that never came to an answer would have tested nothing of it.
        for (int result = -6; result <= 1; result++) {
            often(answers, "authorize", result);
        }
        for (String call : new String[] {"append", "seal", "tamper"}) {
            often(answers, call, Bench.INDEX);
            often(answers, call, Bench.STATE);
        }
        for (String call : new String[] {"clause", "desk", "issue"}) {
            often(answers, call, Bench.ARGUMENT);
            often(answers, call, Bench.STATE);
        }
        often(answers, "clause", Bench.UNSUPPORTED);
        often(answers, "authorize", Bench.INDEX);
        often(answers, "authorize", Bench.ARGUMENT);
        often(answers, "fact", Bench.INDEX);
        often(answers, "token", Bench.INDEX);
        often(answers, "type", 0);
        often(answers, "limits", 0);
        often(answers, "count", -1);
        Bench.close();
    }

    private static void often(Map<String, Integer> answers, String call, int answer) {
        int times = answers.getOrDefault(call + " " + answer, 0);
        Bench.due(call + " answered " + Bench.name(answer) + " at least 100 times", times >= 100 ? 1 : 0, 1);
    }

    private void run() {
        calls = 0;
        while (bench.callsLeft() >= CALLS_OF_A_STEP) {
            int dice = manyTokens && random.nextInt(3) > 0 ? 16 + random.nextInt(random.nextInt(8) + 1)
                : random.nextInt(24);
            if (dice < 10) {
                write(false);
            } else if (dice < 16) {
                write(true);
            } else if (dice < 18) {
                makeToken();
            } else if (dice < 19) {
                tamper();
            } else if (dice < 22) {
                authorize();
            } else if (dice < 23) {
                setLimits();
            } else {
                ask();
            }
        }
    }

    private void setLimits() {
        int most = random.nextInt(3) > 0 ? 30 : random.nextInt(33) - 1;
        int more = random.nextInt(3) > 0 ? 10 : random.nextInt(14);
        check("limits(" + most + ", " + more + ")", bench.limits(most, more), model.limits(most, more));
    }

    private int below(int bound) {
        return random.nextInt(20) == 0 ? random.nextInt(20) - 2 : random.nextInt(Math.max(1, bound));
    }

    private void write(boolean toDesk) {
        String text = random.nextInt(40) == 0 ? scribble() : clauseText(toDesk);
        if (random.nextInt(10) == 0) {
            text = spoil(text);
        }
        if (random.nextInt(20) == 0) {
            text = text.replaceAll("(?<![0-9-])(?=.)", " ");
        }
        text = text.substring(0, Math.min(text.length(), LONGEST_TEXT));
        for (char c : text.toCharArray()) {
            check("type " + c, bench.type(c), model.type(c));
        }
        int got = toDesk ? bench.desk() : bench.clause();
        check((toDesk ? "desk of " : "clause of ") + text, got, toDesk ? model.desk() : model.clause());
        if (got < 0) {
            bench.wipe();
            model.wipe();
        }
        if (toDesk && got == Bench.STATE) {
            bench.clear();
            model.clear();
        }
    }

    private String scribble() {
        StringBuilder text = new StringBuilder();
        for (int i = random.nextInt(12); i >= 0; i--) {
            text.append(SIGNS.charAt(random.nextInt(SIGNS.length())));
        }
        return text.toString();
    }

    private String spoil(String text) {
        int at = random.nextInt(text.length());
        String sign = "" + SIGNS.charAt(random.nextInt(SIGNS.length()));
        int how = random.nextInt(3);
        return text.substring(0, at) + (how == 0 ? "" : sign) + text.substring(how == 1 ? at : at + 1);
    }

    private String clauseText(boolean toDesk) {
        int kind = random.nextInt(toDesk ? 18 : 14);
        if (kind < 7) {
            return atom("0123");
        }
        StringBuilder body = new StringBuilder();
        int atoms = 1 + random.nextInt(random.nextInt(4) + 1);
        for (int i = 0; i < atoms; i++) {
            body.append(i == 0 ? "" : ",").append(atom("AAABBB2C"));
        }
        String known = body.toString().replaceAll("[^A-H]", "") + (random.nextInt(20) == 0 ? "AH" : "");
        for (int i = random.nextInt(6) / 2; i > 0; i--) {
            body.append(',').append(sum(2, known)).append("<>=#".charAt(random.nextInt(4))).append(sum(2, known));
        }
        String check = "" + "?!".charAt(random.nextInt(2));
        String policy = toDesk || random.nextInt(20) == 0 ? "" + "++-".charAt(random.nextInt(3)) : check;
        String mark = kind < 12 ? atom(known + known + "1") + "=" : kind < 13 ? check : policy;
        return mark + body + (random.nextInt(4) == 0 ? "*" : "");
    }

    private String atom(String terms) {
        String letter = "" + "pqr".charAt(random.nextInt(3));
        int size = random.nextInt(10);
        if (size == 0) {
            return letter;
        }
        return size < 7 ? letter + "(" + term(terms) + ")" : letter + "(" + term(terms) + "," + term(terms) + ")";
    }

    private String term(String terms) {
        int dice = random.nextInt(36);
        if (dice == 0) {
            return (random.nextBoolean() ? "-" : "") + edge();
        }
        return dice < 4 ? "-" + random.nextInt(3) : "" + terms.charAt(random.nextInt(terms.length()));
    }

    private int edge() {
        return EDGES[random.nextInt(EDGES.length)];
    }

    private String sum(int depth, String known) {
        int dice = depth == 0 ? 0 : random.nextInt(12);
        if (dice < 7) {
            boolean plain = known.isEmpty() || random.nextInt(3) == 0;
            return plain ? "" + number() : "" + known.charAt(random.nextInt(known.length()));
        }
        String inner = sum(depth - 1, known) + "+-*/".charAt(random.nextInt(4)) + sum(depth - 1, known);
        return dice < 9 ? "(" + inner + ")" : inner;
    }

    private int number() {
        return random.nextInt(6) == 0 ? edge() : random.nextInt(4);
    }

    private void makeToken() {
        int known = model.count(0);
        int which = random.nextInt(4);
        int token = below(known);
        if (known == 0 || which == 0) {
            int root = random.nextInt(8) == 0 ? random.nextInt(5) : 1;
            check("issue(" + root + ")", bench.issue(root), model.issue(root));
        } else if (which < 3) {
            check("append(" + token + ")", bench.append(token), model.append(token));
        } else {
            check("seal(" + token + ")", bench.seal(token), model.seal(token));
        }
    }

    private void tamper() {
        int token = below(model.count(0));
        int how = below(7);
        int a = below(4);
        int b = below(4);
        check("tamper(" + token + ", " + how + ", " + a + ", " + b + ")", bench.tamper(token, how, a, b),
            model.tamper(token, how, a, b));
    }

    private void authorize() {
        int token = below(model.count(0));
        int root = random.nextInt(15) == 0 ? random.nextInt(5) : 1;
        check("authorize(" + token + ", " + root + ")", bench.authorize(token, root), model.authorize(token, root));
        for (int what = 0; what < 4; what++) {
            check("latest(" + what + ")", bench.latest(what), model.latest(what));
        }
        int k = below(model.latest(1) + 1);
        for (int what = 0; what < 5; what++) {
            check("fact(" + k + ", " + what + ")", bench.fact(k, what), model.fact(k, what));
        }
    }

    private void ask() {
        int what = below(7);
        check("count(" + what + ")", bench.count(what), model.count(what));
        int token = below(model.count(0));
        int part = random.nextInt(4) * 10 + below(4);
        check("token(" + token + ", " + part + ")", bench.token(token, part), model.token(token, part));
        check("latest(" + part + ")", bench.latest(part), model.latest(part));
        check("fact(" + token + ", " + what + ")", bench.fact(token, what), model.fact(token, what));
    }

    private void check(String call, int got, int want) {
        calls++;
        answers.merge(call.split("[( ]", 2)[0] + " " + got, 1, Integer::sum);
        Bench.due(name + "call " + calls + ", " + call, got, want);
    }
}
