import com.sun.management.ThreadMXBean;
import java.lang.management.ManagementFactory;

/** What the calls of one run take of the room that they all live in: the dearest of each kind. */
public final class RoomTest {
    private static final ThreadMXBean MEMORY = (ThreadMXBean) ManagementFactory.getThreadMXBean();
    /** A room of 7.3 million fields and elements, at 4 bytes each, holds almost thirty such runs. */
    private static final long BYTES_OF_A_RUN = 1_000_000;
    private static final long BYTES_OF_A_NEW_OBJECT = 8_192;
    private static final String DEAREST = "+a(A,B),b(A,B),c(A,B),A<B+A+B+A+B,A#B+A*";

    private interface Work {
        void call();
    }

    public static void main(String[] args) {
        dueAtMost("a new object", BYTES_OF_A_NEW_OBJECT, GrantChain::new);
        dueAtMost("a run of refused clauses", BYTES_OF_A_RUN, RoomTest::refuseAgainAndAgain);
        dueAtMost("a run of tokens", BYTES_OF_A_RUN, RoomTest::fillWithTokens);
        GrantChain chain = crowded();
        dueAtMost("authorize()", 0, () -> chain.authorize(0, 1));
        Bench.due("result of the dearest authorize()", chain.latest(0), 0);
        Bench.due("facts of the dearest authorize()", chain.latest(1), 30);
        dueAtMost("what tells of it", 0, () -> tell(chain));
        Bench.close();
    }

    /** Of a few times the one that took least, as at first the JVM makes objects of its own. */
    private static void dueAtMost(String what, long most, Work work) {
        long least = Long.MAX_VALUE;
        for (int time = 0; time < 5; time++) {
            long before = MEMORY.getCurrentThreadAllocatedBytes();
            work.call();
            least = Math.min(least, MEMORY.getCurrentThreadAllocatedBytes() - before);
        }
        Bench.due(what + " takes at most " + most + " bytes, not " + least + ": kept", least <= most ? 1 : 0, 1);
    }

    private static void type(GrantChain chain, String text) {
        for (int i = 0; i < text.length(); i++) {
            chain.type(text.charAt(i));
        }
    }

    /** The whole line is read each time, and stays. */
    private static void refuseAgainAndAgain() {
        GrantChain chain = new GrantChain();
        type(chain, DEAREST);
        int refused = 0;
        for (int call = chain.count(5) + 1; call < 512; call++) {
            try {
                chain.clause();
            } catch (UnsupportedOperationException e) {
                refused++;
            }
        }
        Bench.due("refused clauses", refused, 471);
    }

    private static void fillWithTokens() {
        GrantChain chain = new GrantChain();
        for (int token = 0; token < 16; token += 4) {
            chain.append(chain.append(chain.append(chain.issue(1))));
        }
        Bench.due("tokens", chain.count(0), 16);
    }

    /** Thirty facts, of which each fits each atom of a check that has three. */
    private static GrantChain crowded() {
        GrantChain chain = new GrantChain();
        String[] desk = {
            "a(1)", "a(2)", "a(3)", "a(4)", "a(5)", "b(A,B)=a(A),a(B)", "!b(A,B),b(C,D),b(E,F)", "+b(A,B),A>B",
        };
        for (String text : desk) {
            type(chain, text);
            chain.desk();
        }
        chain.issue(1);
        return chain;
    }

    private static void tell(GrantChain chain) {
        for (int what = 0; what < 5; what++) {
            chain.latest(what);
            chain.fact(29, what);
            chain.count(what);
            chain.token(0, 10);
        }
    }
}
