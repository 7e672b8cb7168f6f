import java.util.Arrays;

/** Pairs of objects with the same past: a call that one of them is refused must leave it as the other one is. */
final class Twins {
    interface Past {
        void of(Bench b);
    }

    interface Asked {
        int of(Bench b);
    }

    private interface Look {
        String at(Bench b);
    }

    /** Each on a pair of its own: a look may change what it looks at, and all of them would be too many calls. */
    private static final Look[] LOOKS = {
        Twins::told, Twins::judged, Twins::desk, Twins::line, Twins::closedLine, Twins::roomInTheLine,
        Twins::appendedBlock, Twins::issuedBlock, Twins::mostFacts, Twins::mostRounds,
    };

    private Twins() {
    }

    /** The call answers what is due, and changes nothing that a later call could tell. */
    static void unchanged(String name, Past past, Asked call, int due) {
        for (Look look : LOOKS) {
            Bench asked = new Bench();
            Bench other = new Bench();
            past.of(asked);
            past.of(other);
            Bench.due(name, call.of(asked), due);
            Bench.same("what is there after " + name, look.at(asked), look.at(other));
        }
    }

    /** Whether the looks see a call that does change something; a look that sees nothing would test nothing. */
    static void changed(String name, Past past, Asked call) {
        int differences = 0;
        for (Look look : LOOKS) {
            Bench asked = new Bench();
            Bench other = new Bench();
            past.of(asked);
            past.of(other);
            call.of(asked);
            differences += look.at(asked).equals(look.at(other)) ? 0 : 1;
        }
        Bench.due(name + " is seen", differences > 0 ? 1 : 0, 1);
    }

    private static String told(Bench b) {
        StringBuilder text = new StringBuilder();
        for (int what = -1; what <= 6; what++) {
            text.append(b.count(what)).append(' ').append(b.latest(what)).append(' ');
        }
        text.append(b.facts());
        int tokens = b.count(0);
        for (int token = 0; token < tokens; token++) {
            text.append(" ; ").append(b.shown(token));
        }
        return text.toString();
    }

    private static String judged(Bench b) {
        StringBuilder text = new StringBuilder();
        int tokens = b.count(0);
        for (int token = 0; token < tokens; token++) {
            for (int root = 1; root <= 3; root++) {
                text.append(b.authorize(token, root)).append(' ');
            }
        }
        return text.toString();
    }

    private static String outcome(Bench b, int token) {
        int[] latest = {b.authorize(token, 1), b.latest(1), b.latest(2), b.latest(3)};
        return Arrays.toString(latest) + " " + b.facts();
    }

    private static String desk(Bench b) {
        return outcome(b, 0);
    }

    private static String line(Bench b) {
        b.clear();
        return b.desk() + " " + outcome(b, 0);
    }

    private static String closedLine(Bench b) {
        b.type(')');
        return line(b);
    }

    private static String roomInTheLine(Bench b) {
        return b.type("0123456789012345678901234567890123456789 ") + " " + b.count(5);
    }

    private static String appendedBlock(Bench b) {
        int token = b.append(0);
        return token < 0 ? Bench.name(token) : b.shown(token) + " " + outcome(b, token);
    }

    private static String issuedBlock(Bench b) {
        int token = b.issue(1);
        return token < 0 ? Bench.name(token) : b.shown(token) + " " + outcome(b, token);
    }

    private static String mostFacts(Bench b) {
        StringBuilder text = new StringBuilder();
        b.clear();
        for (int i = 0; i < 10; i++) {
            b.desk("f(" + i + ")");
            text.append(b.authorize(0, 1)).append(' ');
        }
        return text.toString();
    }

    private static String mostRounds(Bench b) {
        StringBuilder text = new StringBuilder();
        b.onDesk("f");
        for (char name = 'g'; name < 'p'; name++) {
            b.desk(name + "=" + (char) (name - 1));
            text.append(b.authorize(0, 1)).append(' ').append(b.latest(2)).append(' ');
        }
        return text.toString();
    }
}
