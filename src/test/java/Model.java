import java.util.ArrayList;
import java.util.Arrays;
import java.util.List;
import java.util.TreeSet;
import java.util.regex.Matcher;
import java.util.regex.Pattern;

/** The document once more, written for plainness and not for thrift: what RandomTest holds the program against. */
final class Model {
    /** A sum that cannot be worked out. */
    private static final class Wrong extends RuntimeException {
        private static final long serialVersionUID = 1L;
    }

    /** Words of a clause, cut apart: a kind, a head, atoms and comparisons, each atom a list of words. */
    private static final class Parsed {
        int kind;
        boolean star;
        List<String> head;
        final List<List<String>> atoms = new ArrayList<>();
        final List<List<String>> comparisons = new ArrayList<>();
    }

    private static final class Chain {
        final List<int[]> links = new ArrayList<>();
        boolean sealed;
        int key;
        int sealedOf;
    }

    private static final Pattern WORD = Pattern.compile(" *([0-9]{1,4}(?![0-9])|[A-Ha-z]|[?!+\\-*/<>=#(),])");

    private String line = "";
    private final List<List<Parsed>> blocks = new ArrayList<>();
    private List<Parsed> making = new ArrayList<>();
    private final List<Parsed> desk = new ArrayList<>();
    private final List<Chain> chains = new ArrayList<>();
    private int keys = 3;
    private int most = 30;
    private int more = 10;
    private final int[] latest = new int[4];
    private List<List<Integer>> latestFacts = new ArrayList<>();

    int type(char c) {
        if (c < ' ' || c > '~' || line.length() == 40) {
            return 0;
        }
        line += c;
        return 1;
    }

    void wipe() {
        line = "";
    }

    int clause() {
        Parsed p = parse(line);
        if (p == null) {
            return Bench.ARGUMENT;
        }
        if (p.kind > 3) {
            return Bench.UNSUPPORTED;
        }
        if (making.size() == 5) {
            return Bench.STATE;
        }
        making.add(p);
        line = "";
        return p.kind;
    }

    int desk() {
        Parsed p = parse(line);
        if (p == null) {
            return Bench.ARGUMENT;
        }
        if (desk.size() == 10) {
            return Bench.STATE;
        }
        desk.add(p);
        line = "";
        return p.kind;
    }

    void clear() {
        desk.clear();
    }

    int issue(int root) {
        if (root < 1 || root > 3) {
            return Bench.ARGUMENT;
        }
        return chains.size() == 16 ? Bench.STATE : extend(new Chain(), root);
    }

    int append(int token) {
        if (token < 0 || token >= chains.size()) {
            return Bench.INDEX;
        }
        Chain old = chains.get(token);
        return old.sealed || old.links.size() == 4 || chains.size() == 16 ? Bench.STATE : extend(copy(old), old.key);
    }

    private int extend(Chain chain, int signer) {
        blocks.add(making);
        making = new ArrayList<>();
        keys++;
        chain.links.add(new int[] {blocks.size(), keys, signer, blocks.size(), keys});
        chain.key = keys;
        return add(chain);
    }

    private int add(Chain chain) {
        chains.add(chain);
        return chains.size() - 1;
    }

    private static Chain copy(Chain old) {
        Chain chain = new Chain();
        for (int[] link : old.links) {
            chain.links.add(link.clone());
        }
        chain.sealed = old.sealed;
        chain.key = old.key;
        chain.sealedOf = old.sealedOf;
        return chain;
    }

    int seal(int token) {
        if (token < 0 || token >= chains.size()) {
            return Bench.INDEX;
        }
        if (chains.get(token).sealed || chains.size() == 16) {
            return Bench.STATE;
        }
        Chain chain = copy(chains.get(token));
        chain.sealed = true;
        chain.sealedOf = chain.links.size();
        return add(chain);
    }

    int tamper(int token, int how, int a, int b) {
        if (token < 0 || token >= chains.size() || how < 0 || how > 6) {
            return Bench.INDEX;
        }
        Chain old = chains.get(token);
        int size = old.links.size();
        boolean noA = how > 0 && (a < 0 || a >= size);
        boolean noB = (how == 1 || how == 2) && (b < 0 || b >= size);
        if (noA || noB || how == 0 && size == 1) {
            return Bench.INDEX;
        }
        if (chains.size() == 16 || how == 6 && old.sealed) {
            return Bench.STATE;
        }
        Chain chain = copy(old);
        List<int[]> links = chain.links;
        if (how == 0) {
            links.remove(size - 1);
        } else if (how == 1) {
            int block = links.get(a)[0];
            links.get(a)[0] = links.get(b)[0];
            links.get(b)[0] = block;
        } else if (how == 2) {
            int[] link = links.get(a);
            links.set(a, links.get(b));
            links.set(b, link);
        } else if (how == 3) {
            links.get(a)[0] = blocks.size();
        } else if (how == 6) {
            int[] link = links.get(a);
            links.set(a, new int[] {link[0], link[1], old.key, link[0], link[1]});
        } else {
            links.get(a)[1] = ++keys;
            if (how == 5) {
                links.subList(a + 1, size).clear();
                chain.sealed = false;
                chain.key = keys;
            }
        }
        return add(chain);
    }

    int limits(int newMost, int newMore) {
        if (newMost < 1 || newMost > 30 || newMore < 1 || newMore > 12) {
            return 0;
        }
        most = newMost;
        more = newMore;
        return 1;
    }

    int latest(int what) {
        return what < 0 || what > 3 ? 0 : latest[what];
    }

    int fact(int k, int what) {
        return k < 0 || k >= latestFacts.size() || what < 0 || what > 4 ? Bench.INDEX : latestFacts.get(k).get(what);
    }

    int token(int token, int what) {
        if (token < 0 || token >= chains.size()) {
            return Bench.INDEX;
        }
        Chain chain = chains.get(token);
        if (what >= 0 && what <= 2) {
            return new int[] {chain.links.size(), chain.sealed ? 1 : 0, chain.key}[what];
        }
        for (int k = 0; k < chain.links.size(); k++) {
            for (int tens = 1; tens <= 3; tens++) {
                if (what == tens * 10 + k) {
                    return chain.links.get(k)[tens - 1];
                }
            }
        }
        return Bench.INDEX;
    }

    int count(int what) {
        int[] counts = {chains.size(), blocks.size(), keys, making.size(), desk.size(), line.length()};
        return what < 0 || what > 5 ? -1 : counts[what];
    }

    int authorize(int token, int root) {
        if (token < 0 || token >= chains.size()) {
            return Bench.INDEX;
        }
        if (root < 1 || root > 3) {
            return Bench.ARGUMENT;
        }
        Arrays.fill(latest, 0);
        latestFacts = new ArrayList<>();
        latest[0] = decide(chains.get(token), root);
        if (latest[0] == -2) {
            latestFacts = new ArrayList<>();
        }
        if (latest[0] != -4) {
            latest[3] = 0;
        }
        latest[1] = latestFacts.size();
        return latest[0];
    }

    private int decide(Chain chain, int root) {
        int key = root;
        boolean right = true;
        for (int[] link : chain.links) {
            right &= link[2] == key && link[3] == link[0] && link[4] == link[1];
            key = link[1];
        }
        if (!right || chain.key != key || chain.sealed && chain.sealedOf != chain.links.size()) {
            return -1;
        }
        List<Parsed> clauses = new ArrayList<>();
        List<Integer> places = new ArrayList<>();
        for (int place = 0; place < 5; place++) {
            List<Parsed> here = place == 4 ? desk : new ArrayList<>();
            if (place < chain.links.size()) {
                here = blocks.get(chain.links.get(place)[0] - 1);
            }
            for (Parsed p : here) {
                clauses.add(p);
                places.add(place);
            }
        }
        TreeSet<List<Integer>> facts = new TreeSet<>(Model::order);
        for (int i = 0; i < clauses.size(); i++) {
            if (clauses.get(i).kind == 0) {
                facts.add(made(clauses.get(i).head, new int[8], 1 << places.get(i)));
            }
        }
        if (facts.size() > most) {
            return -2;
        }
        for (boolean fresh = true; fresh;) {
            if (latest[2] == more) {
                return -2;
            }
            TreeSet<List<Integer>> all = new TreeSet<>(Model::order);
            all.addAll(facts);
            for (int i = 0; i < clauses.size(); i++) {
                if (clauses.get(i).kind == 1) {
                    all.addAll(look(clauses.get(i), places.get(i), facts).gives);
                }
            }
            latest[2]++;
            fresh = all.size() > facts.size();
            facts = all;
            if (facts.size() > most) {
                return -2;
            }
        }
        latestFacts = new ArrayList<>(facts);
        return judge(clauses, places, facts);
    }

    private int judge(List<Parsed> clauses, List<Integer> places, TreeSet<List<Integer>> facts) {
        boolean errors = false;
        int checks = 0;
        int policies = 0;
        Integer decided = null;
        for (int i = 0; i < clauses.size(); i++) {
            Parsed p = clauses.get(i);
            if (p.kind == 0 || p.kind > 3 && decided != null) {
                continue;
            }
            Seen seen = look(p, places.get(i), facts);
            errors |= seen.fails > 0;
            if (p.kind == 2 || p.kind == 3) {
                boolean fulfilled = seen.holds > 0 && (p.kind == 2 || seen.misses == 0);
                latest[3] += fulfilled ? 0 : 1 << checks;
                checks++;
            }
            if (p.kind > 3) {
                if (seen.holds > 0) {
                    decided = p.kind == 4 ? policies : -5;
                }
                policies++;
            }
        }
        if (errors) {
            return -3;
        }
        return latest[3] != 0 ? -4 : decided == null ? -6 : decided;
    }

    private static final class Seen {
        int holds;
        int misses;
        int fails;
        final List<List<Integer>> gives = new ArrayList<>();
    }

    /** Every choice of facts for the atoms, one after the other, fit or not. */
    private static Seen look(Parsed p, int place, TreeSet<List<Integer>> facts) {
        int trusts = 1 | 16 | 1 << place;
        for (int before = 0; p.star && before < place; before++) {
            trusts |= 1 << before;
        }
        List<List<Integer>> usable = new ArrayList<>();
        for (List<Integer> fact : facts) {
            if ((fact.get(4) | trusts) == trusts) {
                usable.add(fact);
            }
        }
        Seen seen = new Seen();
        int size = p.atoms.size();
        int choices = (int) Math.pow(usable.size(), size);
        for (int choice = 0; choice < choices; choice++) {
            int[] values = new int[8];
            boolean[] bound = new boolean[8];
            int origin = 1 << place;
            boolean fits = true;
            int rest = choice;
            for (int i = 0; i < size && fits; i++) {
                List<Integer> fact = usable.get(rest % usable.size());
                rest /= usable.size();
                origin |= fact.get(4);
                fits = fits(p.atoms.get(i), fact, values, bound);
            }
            if (fits) {
                weigh(p, values, origin, seen);
            }
        }
        return seen;
    }

    private static boolean fits(List<String> atom, List<Integer> fact, int[] values, boolean[] bound) {
        if (atom.get(0).charAt(0) - 'a' != fact.get(0) || atom.size() - 1 != fact.get(1)) {
            return false;
        }
        for (int t = 1; t < atom.size(); t++) {
            int value = fact.get(1 + t);
            char c = atom.get(t).charAt(0);
            if (c >= 'A' && c <= 'H') {
                if (bound[c - 'A'] && values[c - 'A'] != value) {
                    return false;
                }
                bound[c - 'A'] = true;
                values[c - 'A'] = value;
            } else if (Integer.parseInt(atom.get(t)) != value) {
                return false;
            }
        }
        return true;
    }

    private static void weigh(Parsed p, int[] values, int origin, Seen seen) {
        try {
            for (List<String> comparison : p.comparisons) {
                if (!new Sums(comparison, values).isTrue()) {
                    seen.misses++;
                    return;
                }
            }
        } catch (Wrong e) {
            seen.fails++;
            seen.misses++;
            return;
        }
        seen.holds++;
        if (p.kind == 1) {
            seen.gives.add(made(p.head, values, origin));
        }
    }

    private static List<Integer> made(List<String> head, int[] values, int origin) {
        List<Integer> fact = new ArrayList<>(Arrays.asList(head.get(0).charAt(0) - 'a', head.size() - 1, 0, 0, origin));
        for (int t = 1; t < head.size(); t++) {
            char c = head.get(t).charAt(0);
            fact.set(1 + t, c >= 'A' && c <= 'H' ? values[c - 'A'] : Integer.parseInt(head.get(t)));
        }
        return fact;
    }

    private static int order(List<Integer> one, List<Integer> other) {
        for (int i = 0; i < 5; i++) {
            if (!one.get(i).equals(other.get(i))) {
                return one.get(i) < other.get(i) ? -1 : 1;
            }
        }
        return 0;
    }

    /** Works a comparison out, from its words. */
    private static final class Sums {
        private final List<String> words;
        private final int[] values;
        private int at;

        Sums(List<String> words, int[] values) {
            this.words = words;
            this.values = values;
        }

        boolean isTrue() {
            long left = sum();
            String sign = words.get(at++);
            long right = sum();
            return sign.equals("<") ? left < right
                : sign.equals(">") ? left > right : sign.equals("=") ? left == right : left != right;
        }

        private boolean next(String one, String other) {
            return at < words.size() && (words.get(at).equals(one) || words.get(at).equals(other));
        }

        private long sum() {
            long value = product();
            while (next("+", "-")) {
                value = words.get(at++).equals("+") ? inside(value + product()) : inside(value - product());
            }
            return value;
        }

        private long product() {
            long value = factor();
            while (next("*", "/")) {
                boolean times = words.get(at++).equals("*");
                long right = factor();
                if (!times && right == 0) {
                    throw new Wrong();
                }
                value = inside(times ? value * right : value / right);
            }
            return value;
        }

        private long factor() {
            String word = words.get(at++);
            if (word.equals("(")) {
                long value = sum();
                at++;
                return value;
            }
            char c = word.charAt(0);
            return c >= 'A' && c <= 'H' ? values[c - 'A'] : Integer.parseInt(word);
        }

        private static long inside(long value) {
            if (Math.abs(value) > 99999) {
                throw new Wrong();
            }
            return value;
        }
    }

    /** Cuts a line into words, and the words into the parts of a clause by their commas; null if it is no clause. */
    private static Parsed parse(String text) {
        List<String> words = words(text);
        if (words == null || words.isEmpty()) {
            return null;
        }
        Parsed p = new Parsed();
        p.kind = "?!+-".indexOf(words.get(0)) + 2;
        int equals = words.indexOf("=");
        if (p.kind == 1 && equals < 0) {
            p.kind = 0;
        }
        if (p.kind == 0) {
            p.head = atom(words);
            return p.head == null || !variables(p.head).isEmpty() ? null : p;
        }
        if (p.kind == 1) {
            p.head = atom(words.subList(0, equals));
            if (p.head == null) {
                return null;
            }
        }
        List<String> body = new ArrayList<>(words.subList(p.kind == 1 ? equals + 1 : 1, words.size()));
        if (!body.isEmpty() && body.get(body.size() - 1).equals("*")) {
            p.star = true;
            body.remove(body.size() - 1);
        }
        return fillBody(p, body) ? p : null;
    }

    private static boolean fillBody(Parsed p, List<String> body) {
        StringBuilder known = new StringBuilder();
        StringBuilder needed = new StringBuilder(p.head == null ? "" : variables(p.head));
        for (List<String> part : parts(body)) {
            List<String> atom = atom(part);
            if (atom != null && p.comparisons.isEmpty()) {
                p.atoms.add(atom);
                known.append(variables(atom));
            } else if (isComparison(part)) {
                p.comparisons.add(part);
                needed.append(variables(part));
            } else {
                return false;
            }
        }
        for (char c : needed.toString().toCharArray()) {
            if (known.indexOf("" + c) < 0) {
                return false;
            }
        }
        return !p.atoms.isEmpty() && p.atoms.size() <= 3 && p.comparisons.size() <= 2;
    }

    /** The words; a minus that stands right before digits stays a word of its own, with a mark. */
    private static List<String> words(String text) {
        List<String> words = new ArrayList<>();
        Matcher m = WORD.matcher(text);
        int at = 0;
        while (m.region(at, text.length()).lookingAt()) {
            String word = m.group(1);
            boolean joined = word.equals("-") && m.end() < text.length() && Character.isDigit(text.charAt(m.end()));
            words.add(joined ? "-~" : word);
            at = m.end();
        }
        if (!words.isEmpty() && words.get(0).equals("-~")) {
            words.set(0, "-");
        }
        return text.substring(at).trim().isEmpty() ? words : null;
    }

    private static List<List<String>> parts(List<String> words) {
        List<List<String>> parts = new ArrayList<>();
        List<String> part = new ArrayList<>();
        int open = 0;
        for (String word : words) {
            open += word.equals("(") ? 1 : word.equals(")") ? -1 : 0;
            if (word.equals(",") && open == 0) {
                parts.add(part);
                part = new ArrayList<>();
            } else {
                part.add(word);
            }
        }
        parts.add(part);
        return parts;
    }

    /** The letter and the terms. */
    private static List<String> atom(List<String> words) {
        String text = String.join(" ", words).replace("-~ ", "-");
        Matcher m = Pattern.compile("([a-z])(?: \\( (-?[0-9]+|[A-H])(?: , (-?[0-9]+|[A-H]))? \\))?").matcher(text);
        if (!m.matches()) {
            return null;
        }
        List<String> atom = new ArrayList<>();
        for (int i = 1; i <= 3; i++) {
            if (m.group(i) != null) {
                atom.add(m.group(i));
            }
        }
        return atom;
    }

    private static String variables(List<String> words) {
        return String.join("", words).replaceAll("[^A-H]", "");
    }

    /** Rewrites the words until nothing but one comparison of two factors is left. */
    private static boolean isComparison(List<String> words) {
        for (int i = 0; i < words.size(); i++) {
            if (words.get(i).equals("-~")) {
                words.set(i, "-");
            }
        }
        int open = 0;
        for (String word : words) {
            open += word.equals("(") ? 1 : word.equals(")") ? -1 : 0;
            if (open > 4) {
                return false;
            }
        }
        String text = String.join(" ", words).replaceAll("[0-9]+|[A-H]", "F");
        String before = "";
        while (!before.equals(text)) {
            before = text;
            text = text.replaceAll("F [+\\-*/] F", "F").replaceAll("\\( F \\)", "F");
        }
        return text.matches("F [<>=#] F");
    }
}
