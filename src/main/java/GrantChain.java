import java.util.ArrayList;
import java.util.Arrays;
import java.util.List;

/** Tokens that grant and restrict, and a desk that works out whether one of them is allowed. */
public final class GrantChain {
    private static final int LINE_ROOM = 40;
    private static final int BLOCK_ROOM = 5;
    private static final int DESK_ROOM = 10;
    private static final int TOKEN_ROOM = 16;
    private static final int LINK_ROOM = 4;
    private static final int MOST_ROOM = 30;
    private static final int MORE_ROOM = 12;
    private static final int ROOTS = 3;

    private static final int FACT = 0;
    private static final int RULE = 1;
    private static final int SOME_CHECK = 2;
    private static final int EVERY_CHECK = 3;
    private static final int ALLOW = 4;
    private static final int DENY = 5;

    private static final int BAD = -1;
    private static final int LIMIT = -2;
    private static final int ERRORS = -3;
    private static final int CHECKS = -4;
    private static final int DENIED = -5;
    private static final int NONE = -6;

    private static final int WITHOUT_LAST = 0;
    private static final int SWAP_BLOCKS = 1;
    private static final int SWAP_LINKS = 2;
    private static final int LATEST_BLOCK = 3;
    private static final int NEW_KEY = 4;
    private static final int CUT_WITH_NEW_KEY = 5;
    private static final int SIGN_ANEW = 6;

    /** A term or step of this or more is a variable: this and the variable's number. Numbers lie below it. */
    private static final int VARIABLE = 1 << 20;
    private static final int VARIABLES = 8;

    private final Line line;
    private final Reader reader;
    private final Judge judge;
    private final Block deskClauses;
    private final List<Block> blocks;
    private final List<Token> tokens;
    private Block making;
    private int keys;
    private int most;
    private int more;

    public GrantChain() {
        line = new Line();
        reader = new Reader();
        judge = new Judge();
        deskClauses = new Block();
        blocks = new ArrayList<>();
        tokens = new ArrayList<>();
        making = new Block();
        keys = ROOTS;
        most = MOST_ROOM;
        more = 10;
    }

    public boolean type(char c) {
        return line.put(c);
    }

    public void wipe() {
        line.length = 0;
    }

    public int clause() throws IllegalArgumentException, UnsupportedOperationException, IllegalStateException {
        Clause read = reader.read(line);
        if (read == null) {
            throw new IllegalArgumentException();
        }
        if (read.kind == ALLOW || read.kind == DENY) {
            throw new UnsupportedOperationException();
        }
        if (making.clauses.size() >= BLOCK_ROOM) {
            throw new IllegalStateException();
        }
        return moveLine(read, making);
    }

    public int desk() throws IllegalArgumentException, IllegalStateException {
        Clause read = reader.read(line);
        if (read == null) {
            throw new IllegalArgumentException();
        }
        if (deskClauses.clauses.size() >= DESK_ROOM) {
            throw new IllegalStateException();
        }
        return moveLine(read, deskClauses);
    }

    public void clear() {
        deskClauses.clauses.clear();
    }

    public int issue(int root) throws IllegalArgumentException, IllegalStateException {
        if (!isRoot(root)) {
            throw new IllegalArgumentException();
        }
        if (tokens.size() >= TOKEN_ROOM) {
            throw new IllegalStateException();
        }
        return keepWithNewLink(new Token(), root);
    }

    public int append(int token) throws IndexOutOfBoundsException, IllegalStateException {
        if (!isToken(token)) {
            throw new IndexOutOfBoundsException();
        }
        Token from = tokens.get(token);
        if (from.sealed || from.links.size() >= LINK_ROOM || tokens.size() >= TOKEN_ROOM) {
            throw new IllegalStateException();
        }
        return keepWithNewLink(from.copy(), from.proofKey);
    }

    public int seal(int token) throws IndexOutOfBoundsException, IllegalStateException {
        if (!isToken(token)) {
            throw new IndexOutOfBoundsException();
        }
        Token from = tokens.get(token);
        if (from.sealed || tokens.size() >= TOKEN_ROOM) {
            throw new IllegalStateException();
        }
        Token made = from.copy();
        made.sealed = true;
        made.sealedLinks = made.links.size();
        return keep(made);
    }

    public int tamper(int token, int how, int a, int b) throws IndexOutOfBoundsException, IllegalStateException {
        if (!isToken(token) || !canTamper(tokens.get(token).links.size(), how, a, b)) {
            throw new IndexOutOfBoundsException();
        }
        Token from = tokens.get(token);
        if (tokens.size() >= TOKEN_ROOM || how == SIGN_ANEW && from.sealed) {
            throw new IllegalStateException();
        }
        Token made = from.copy();
        switch (how) {
            case WITHOUT_LAST:
                made.cutTo(made.links.size() - 1);
                break;
            case SWAP_BLOCKS:
                made.swapBlocks(a, b);
                break;
            case SWAP_LINKS:
                made.swapLinks(a, b);
                break;
            case LATEST_BLOCK:
                made.changeLink(a, blocks.size(), made.links.get(a).next);
                break;
            case NEW_KEY:
                made.changeLink(a, made.links.get(a).block, newKey());
                break;
            case CUT_WITH_NEW_KEY:
                made.changeLink(a, made.links.get(a).block, newKey());
                made.cutTo(a + 1);
                made.openWith(keys);
                break;
            default:
                made.signAnew(a);
                break;
        }
        return keep(made);
    }

    public boolean limits(int most, int more) {
        if (most < 1 || most > MOST_ROOM || more < 1 || more > MORE_ROOM) {
            return false;
        }
        this.most = most;
        this.more = more;
        return true;
    }

    public int authorize(int token, int root) throws IndexOutOfBoundsException, IllegalArgumentException {
        if (!isToken(token)) {
            throw new IndexOutOfBoundsException();
        }
        if (!isRoot(root)) {
            throw new IllegalArgumentException();
        }
        Token chosen = tokens.get(token);
        judge.begin(most);
        if (!chosen.isRightFor(root)) {
            return judge.end(BAD);
        }
        layOut(chosen);
        if (!judge.settle(more)) {
            return judge.end(LIMIT);
        }
        return judge.end(judge.verdict());
    }

    public int latest(int what) {
        switch (what) {
            case 0:
                return judge.result;
            case 1:
                return judge.facts.size;
            case 2:
                return judge.rounds;
            case 3:
                return judge.unfulfilled;
            default:
                return 0;
        }
    }

    public int fact(int k, int what) throws IndexOutOfBoundsException {
        if (k < 0 || k >= judge.facts.size || what < 0 || what >= Facts.COLUMNS) {
            throw new IndexOutOfBoundsException();
        }
        return judge.facts.rows[k][what];
    }

    public int token(int token, int what) throws IndexOutOfBoundsException {
        if (!isToken(token) || what < 0) {
            throw new IndexOutOfBoundsException();
        }
        Token asked = tokens.get(token);
        int tens = what / 10;
        int ones = what % 10;
        if (tens > 3 || ones >= (tens == 0 ? 3 : asked.links.size())) {
            throw new IndexOutOfBoundsException();
        }
        return tens == 0 ? asked.tell(ones) : asked.links.get(ones).tell(tens);
    }

    public int count(int what) {
        switch (what) {
            case 0:
                return tokens.size();
            case 1:
                return blocks.size();
            case 2:
                return keys;
            case 3:
                return making.clauses.size();
            case 4:
                return deskClauses.clauses.size();
            case 5:
                return line.length;
            default:
                return -1;
        }
    }

    private boolean isToken(int token) {
        return token >= 0 && token < tokens.size();
    }

    private static boolean isRoot(int root) {
        return root >= 1 && root <= ROOTS;
    }

    private static boolean canTamper(int links, int how, int a, int b) {
        if (how == WITHOUT_LAST) {
            return links > 1;
        }
        boolean usesB = how == SWAP_BLOCKS || how == SWAP_LINKS;
        return how > WITHOUT_LAST && how <= SIGN_ANEW && a >= 0 && a < links && (!usesB || b >= 0 && b < links);
    }

    private static boolean isComparison(int sign) {
        return sign == '<' || sign == '>' || sign == '=' || sign == '#';
    }

    private int moveLine(Clause read, Block into) {
        into.clauses.add(read);
        line.length = 0;
        return read.kind;
    }

    private int newKey() {
        keys++;
        return keys;
    }

    private int keepWithNewLink(Token made, int signer) {
        blocks.add(making);
        making = new Block();
        int block = blocks.size();
        int next = newKey();
        made.links.add(new Link(block, next, signer, block, next));
        made.openWith(next);
        return keep(made);
    }

    private int keep(Token made) {
        tokens.add(made);
        return tokens.size() - 1;
    }

    private void layOut(Token chosen) {
        for (int place = 0; place < LINK_ROOM; place++) {
            int block = place < chosen.links.size() ? chosen.links.get(place).block : 0;
            judge.places[place] = block >= 1 && block <= blocks.size() ? blocks.get(block - 1) : judge.nothing;
        }
        judge.places[Judge.DESK_PLACE] = deskClauses;
    }

    /** A letter with up to two terms; a term that is missing is 0. */
    private static final class Atom {
        final int letter;
        final int size;
        final int first;
        final int second;

        Atom(int letter, int size, int first, int second) {
            this.letter = letter;
            this.size = size;
            this.first = first;
            this.second = second;
        }

        int variables() {
            return bit(first) | bit(second);
        }

        static int bit(int term) {
            return term >= VARIABLE ? 1 << (term - VARIABLE) : 0;
        }
    }

    private static final class Clause {
        final int kind;
        final boolean trustsBefore;
        /** Null unless the clause is a FACT or a RULE. */
        final Atom head;
        final List<Atom> body;
        /** All comparisons, each as its two sums and its sign, signs behind what they work on; a sign is negative. */
        final int[] steps;

        Clause(int kind, boolean trustsBefore, Atom head, List<Atom> body, int[] steps) {
            this.kind = kind;
            this.trustsBefore = trustsBefore;
            this.head = head;
            this.body = body;
            this.steps = steps;
        }
    }

    /** The clauses of a block or of the desk, in their order. */
    private static final class Block {
        final List<Clause> clauses = new ArrayList<>();
    }

    /** The typed characters, and how far they have been read. */
    private static final class Line {
        static final char END = 0;

        final char[] text = new char[LINE_ROOM];
        int length;
        int at;

        boolean put(char c) {
            if (c < 32 || c > 126 || length >= LINE_ROOM) {
                return false;
            }
            text[length] = c;
            length++;
            return true;
        }

        /** The next character that is no blank. */
        char sign() {
            for (int i = at; i < length; i++) {
                if (text[i] != ' ') {
                    at = i;
                    return text[i];
                }
            }
            at = length;
            return END;
        }

        boolean takes(char c) {
            if (sign() != c) {
                return false;
            }
            at++;
            return true;
        }

        /** 1 to 4 digits that stand right here, or -1: a blank before them is not passed over. */
        int digits() {
            int value = 0;
            int start = at;
            for (int i = start; i < length && text[i] >= '0' && text[i] <= '9'; i++) {
                if (i - start >= 4) {
                    return -1;
                }
                value = value * 10 + (text[i] - '0');
                at = i + 1;
            }
            return at > start ? value : -1;
        }

        /** Whether the next sign is an * with nothing behind it: then it is no product's. */
        boolean isAtLastStar() {
            if (sign() != '*') {
                return false;
            }
            for (int i = at + 1; i < length; i++) {
                if (text[i] != ' ') {
                    return false;
                }
            }
            return true;
        }
    }

    /** Makes a clause of a line. */
    private static final class Reader {
        private static final int ATOM_ROOM = 3;
        private static final int COMPARISON_ROOM = 2;
        private static final int OPEN_ROOM = 4;
        private static final int NO_TERM = -1 << 20;
        private static final int NO_SIGN = 0;

        private final int[] steps = new int[LINE_ROOM];
        private int stepCount;
        private int neededVariables;
        private int bodyVariables;

        /** Null if the line is no clause. */
        Clause read(Line line) {
            line.at = 0;
            stepCount = 0;
            neededVariables = 0;
            bodyVariables = 0;
            Atom head = null;
            int kind = readKind(line);
            if (kind == FACT) {
                head = readAtom(line);
                if (head == null) {
                    return null;
                }
                neededVariables = head.variables();
                kind = line.takes('=') ? RULE : FACT;
            }
            List<Atom> body = new ArrayList<>();
            if (kind != FACT && !readBody(line, body)) {
                return null;
            }
            boolean trustsBefore = kind != FACT && line.takes('*');
            // A FACT has no body, so that this refuses all of its variables.
            if (line.sign() != Line.END || (neededVariables & ~bodyVariables) != 0) {
                return null;
            }
            return new Clause(kind, trustsBefore, head, body, Arrays.copyOf(steps, stepCount));
        }

        private static int readKind(Line line) {
            if (line.takes('?')) {
                return SOME_CHECK;
            }
            if (line.takes('!')) {
                return EVERY_CHECK;
            }
            if (line.takes('+')) {
                return ALLOW;
            }
            return line.takes('-') ? DENY : FACT;
        }

        private static Atom readAtom(Line line) {
            char name = line.sign();
            if (!isName(name)) {
                return null;
            }
            line.at++;
            int letter = name - 'a';
            if (!line.takes('(')) {
                return new Atom(letter, 0, 0, 0);
            }
            int first = readTerm(line);
            if (first == NO_TERM) {
                return null;
            }
            if (line.takes(')')) {
                return new Atom(letter, 1, first, 0);
            }
            int second = line.takes(',') ? readTerm(line) : NO_TERM;
            return second != NO_TERM && line.takes(')') ? new Atom(letter, 2, first, second) : null;
        }

        private static int readTerm(Line line) {
            char sign = line.sign();
            if (isVariable(sign)) {
                line.at++;
                return VARIABLE + (sign - 'A');
            }
            boolean negative = line.takes('-');
            int value = line.digits();
            if (value < 0) {
                return NO_TERM;
            }
            return negative ? -value : value;
        }

        private boolean readBody(Line line, List<Atom> body) {
            for (int i = 0; i < ATOM_ROOM; i++) {
                Atom atom = readAtom(line);
                if (atom == null) {
                    return false;
                }
                body.add(atom);
                bodyVariables |= atom.variables();
                if (!line.takes(',')) {
                    return true;
                }
                if (!isName(line.sign())) {
                    break;
                }
            }
            // An atom too many ends here as well: no comparison begins with a name.
            for (int i = 0; i < COMPARISON_ROOM; i++) {
                if (!readComparison(line)) {
                    return false;
                }
                if (!line.takes(',')) {
                    return true;
                }
            }
            return false;
        }

        private boolean readComparison(Line line) {
            if (!readSum(line, 0)) {
                return false;
            }
            char sign = line.sign();
            if (!isComparison(sign)) {
                return false;
            }
            line.at++;
            return readSum(line, 0) && addStep(-sign);
        }

        private boolean readSum(Line line, int open) {
            boolean right = readProduct(line, open);
            for (int i = 0; right && i < LINE_ROOM; i++) {
                int sign = line.takes('+') ? '+' : line.takes('-') ? '-' : NO_SIGN;
                if (sign == NO_SIGN) {
                    break;
                }
                right = readProduct(line, open) && addStep(-sign);
            }
            return right;
        }

        private boolean readProduct(Line line, int open) {
            boolean right = readFactor(line, open);
            for (int i = 0; right && i < LINE_ROOM && !line.isAtLastStar(); i++) {
                int sign = line.takes('*') ? '*' : line.takes('/') ? '/' : NO_SIGN;
                if (sign == NO_SIGN) {
                    break;
                }
                right = readFactor(line, open) && addStep(-sign);
            }
            return right;
        }

        private boolean readFactor(Line line, int open) {
            char sign = line.sign();
            if (sign == '(') {
                line.at++;
                if (open >= OPEN_ROOM || !readSum(line, open + 1) || line.sign() != ')') {
                    return false;
                }
                line.at++;
                return true;
            }
            if (isVariable(sign)) {
                line.at++;
                neededVariables |= 1 << (sign - 'A');
                return addStep(VARIABLE + (sign - 'A'));
            }
            int value = line.digits();
            return value >= 0 && addStep(value);
        }

        /** Always true: each step is at least one character of the line, so that there is room for it. */
        private boolean addStep(int step) {
            if (stepCount >= LINE_ROOM) {
                return false;
            }
            steps[stepCount] = step;
            stepCount++;
            return true;
        }

        private static boolean isName(char c) {
            return c >= 'a' && c <= 'z';
        }

        private static boolean isVariable(char c) {
            return c >= 'A' && c < 'A' + VARIABLES;
        }
    }

    /** A block and the key handed on; and the signature: whose, and of which block and key. Never changed. */
    private static final class Link {
        final int block;
        final int next;
        final int signer;
        final int signedBlock;
        final int signedNext;

        Link(int block, int next, int signer, int signedBlock, int signedNext) {
            this.block = block;
            this.next = next;
            this.signer = signer;
            this.signedBlock = signedBlock;
            this.signedNext = signedNext;
        }

        boolean isSignedBy(int key) {
            return signer == key && signedBlock == block && signedNext == next;
        }

        int tell(int tens) {
            return tens == 1 ? block : tens == 2 ? next : signer;
        }
    }

    private static final class Token {
        final List<Link> links = new ArrayList<>();
        boolean sealed;
        int proofKey;
        /** Of how many links the seal was made. */
        int sealedLinks;

        Token copy() {
            Token made = new Token();
            for (int i = 0; i < links.size(); i++) {
                made.links.add(links.get(i));
            }
            made.sealed = sealed;
            made.proofKey = proofKey;
            made.sealedLinks = sealedLinks;
            return made;
        }

        void openWith(int key) {
            sealed = false;
            proofKey = key;
        }

        void cutTo(int size) {
            for (int i = links.size() - 1; i >= size; i--) {
                links.remove(i);
            }
        }

        /** Leaves the link's signature as it is. */
        void changeLink(int k, int block, int next) {
            Link old = links.get(k);
            links.set(k, new Link(block, next, old.signer, old.signedBlock, old.signedNext));
        }

        void swapBlocks(int a, int b) {
            int block = links.get(a).block;
            changeLink(a, links.get(b).block, links.get(a).next);
            changeLink(b, block, links.get(b).next);
        }

        void swapLinks(int a, int b) {
            Link link = links.get(a);
            links.set(a, links.get(b));
            links.set(b, link);
        }

        void signAnew(int k) {
            Link old = links.get(k);
            links.set(k, new Link(old.block, old.next, proofKey, old.block, old.next));
        }

        boolean isRightFor(int root) {
            int key = root;
            for (int i = 0; i < links.size(); i++) {
                Link link = links.get(i);
                if (!link.isSignedBy(key)) {
                    return false;
                }
                key = link.next;
            }
            return proofKey == key && (!sealed || sealedLinks == links.size());
        }

        int tell(int what) {
            return what == 0 ? links.size() : what == 1 ? (sealed ? 1 : 0) : proofKey;
        }
    }

    /** A set of facts that takes no more than it is told to. */
    private static final class Facts {
        static final int COLUMNS = 5;
        static final int ORIGIN = 4;

        /** Letter, number of terms, values and origin; the row behind the last fact is for one that is offered. */
        final int[][] rows = new int[MOST_ROOM + 1][COLUMNS];
        int size;
        boolean overfull;
        private int room;

        void begin(int most) {
            room = most;
            size = 0;
            overfull = false;
        }

        void offer(Atom atom, int first, int second, int origin) {
            int[] offered = rows[size];
            offered[0] = atom.letter;
            offered[1] = atom.size;
            offered[2] = first;
            offered[3] = second;
            offered[ORIGIN] = origin;
            for (int i = 0; i < size; i++) {
                if (order(rows[i], offered) == 0) {
                    return;
                }
            }
            if (size >= room) {
                overfull = true;
            } else {
                size++;
            }
        }

        void sort() {
            for (int i = 1; i < size; i++) {
                for (int j = i; j > 0 && order(rows[j - 1], rows[j]) > 0; j--) {
                    int[] row = rows[j];
                    rows[j] = rows[j - 1];
                    rows[j - 1] = row;
                }
            }
        }

        private static int order(int[] one, int[] other) {
            for (int i = 0; i < COLUMNS; i++) {
                if (one[i] != other[i]) {
                    return one[i] < other[i] ? -1 : 1;
                }
            }
            return 0;
        }
    }

    /** Works out what comes of the clauses at the places, and keeps it until it begins again. */
    private static final class Judge {
        static final int DESK_PLACE = 4;
        private static final int PLACES = 5;
        private static final int FAILS = -1;
        private static final int MISSES = 0;
        private static final int HOLDS = 1;
        private static final int WORTH = 99999;
        private static final int ERROR = WORTH + 1;
        private static final int UNFIT = -1;
        private static final int CHECK_ROOM = 31;

        final Facts facts = new Facts();
        final Block nothing = new Block();
        final Block[] places = {nothing, nothing, nothing, nothing, nothing};
        int result;
        int rounds;
        int unfulfilled;
        private final int[] values = new int[VARIABLES];
        private final int[] stack = new int[LINE_ROOM];
        private int known;
        private boolean ruleFailed;
        private int trusted;
        private boolean held;
        private boolean missed;
        private boolean failed;

        void begin(int most) {
            facts.begin(most);
            rounds = 0;
            unfulfilled = 0;
        }

        int end(int outcome) {
            if (outcome == BAD || outcome == LIMIT) {
                facts.size = 0;
            }
            if (outcome != CHECKS) {
                unfulfilled = 0;
            }
            facts.sort();
            result = outcome;
            return outcome;
        }

        /** Makes rounds until one gives nothing new; false if a limit comes first. */
        boolean settle(int more) {
            layFacts();
            for (int i = 0; i < more && !facts.overfull; i++) {
                makeRound();
                rounds++;
                if (facts.size == known && !facts.overfull) {
                    return true;
                }
            }
            return false;
        }

        int verdict() {
            // The last round had all the facts, so that a rule that fails has failed there.
            boolean errors = ruleFailed;
            errors |= lookAtChecks();
            int policy = lookAtPolicies();
            if (errors || policy == ERRORS) {
                return ERRORS;
            }
            return unfulfilled != 0 ? CHECKS : policy;
        }

        private void layFacts() {
            for (int place = 0; place < PLACES; place++) {
                List<Clause> clauses = places[place].clauses;
                for (int i = 0; i < clauses.size(); i++) {
                    Clause clause = clauses.get(i);
                    if (clause.kind == FACT && clause.head != null) {
                        facts.offer(clause.head, clause.head.first, clause.head.second, 1 << place);
                    }
                }
            }
        }

        private void makeRound() {
            known = facts.size;
            ruleFailed = false;
            for (int place = 0; place < PLACES; place++) {
                List<Clause> clauses = places[place].clauses;
                for (int i = 0; i < clauses.size(); i++) {
                    Clause clause = clauses.get(i);
                    if (clause.kind == RULE) {
                        search(clause, place);
                        ruleFailed |= failed;
                    }
                }
            }
        }

        /** Marks the checks that are not fulfilled; answers whether one fails. */
        private boolean lookAtChecks() {
            boolean errors = false;
            int number = 0;
            for (int place = 0; place < PLACES; place++) {
                List<Clause> clauses = places[place].clauses;
                for (int i = 0; i < clauses.size(); i++) {
                    Clause clause = clauses.get(i);
                    if (clause.kind != SOME_CHECK && clause.kind != EVERY_CHECK) {
                        continue;
                    }
                    search(clause, place);
                    errors |= failed;
                    boolean fulfilled = held && (clause.kind == SOME_CHECK || !missed);
                    if (!fulfilled && number < CHECK_ROOM) {
                        unfulfilled |= 1 << number;
                    }
                    number++;
                }
            }
            return errors;
        }

        private int lookAtPolicies() {
            List<Clause> clauses = places[DESK_PLACE].clauses;
            int number = 0;
            for (int i = 0; i < clauses.size(); i++) {
                Clause clause = clauses.get(i);
                if (clause.kind != ALLOW && clause.kind != DENY) {
                    continue;
                }
                search(clause, DESK_PLACE);
                if (failed) {
                    return ERRORS;
                }
                if (held) {
                    return clause.kind == ALLOW ? number : DENIED;
                }
                number++;
            }
            return NONE;
        }

        /** Goes through all bindings of a clause's body: afterwards, has one held, missed (not held) or failed? */
        private void search(Clause clause, int place) {
            int own = 1 << place;
            trusted = 1 | 1 << DESK_PLACE | own | (clause.trustsBefore ? own - 1 : 0);
            held = false;
            missed = false;
            failed = false;
            bind(clause, 0, 0, own);
        }

        /** Binds the body's atoms from depth on; bound has the variables whose values are settled. */
        private void bind(Clause clause, int depth, int bound, int origin) {
            if (depth >= clause.body.size()) {
                finish(clause, origin);
                return;
            }
            Atom atom = clause.body.get(depth);
            // Once there are too many facts, LIMIT is certain, and what else the round gives does not matter.
            for (int k = 0; k < known && !facts.overfull; k++) {
                int[] row = facts.rows[k];
                int now = fit(atom, row, bound);
                if (now != UNFIT) {
                    bind(clause, depth + 1, now, origin | row[Facts.ORIGIN]);
                }
            }
        }

        private void finish(Clause clause, int origin) {
            int outcome = work(clause.steps);
            if (outcome != HOLDS) {
                missed = true;
                failed |= outcome == FAILS;
                return;
            }
            held = true;
            Atom head = clause.head;
            if (head != null) {
                facts.offer(head, valueOf(head.first), valueOf(head.second), origin);
            }
        }

        /** The variables that are bound once the fact is the atom's, or UNFIT. */
        private int fit(Atom atom, int[] row, int bound) {
            if (row[0] != atom.letter || row[1] != atom.size || (row[Facts.ORIGIN] & ~trusted) != 0) {
                return UNFIT;
            }
            int now = fitTerm(atom.first, row[2], bound);
            return now == UNFIT ? UNFIT : fitTerm(atom.second, row[3], now);
        }

        private int fitTerm(int term, int value, int bound) {
            int bit = Atom.bit(term);
            if ((bit & ~bound) != 0) {
                values[term - VARIABLE] = value;
                return bound | bit;
            }
            return valueOf(term) == value ? bound : UNFIT;
        }

        private int valueOf(int term) {
            return term >= VARIABLE ? values[term - VARIABLE] : term;
        }

        private int work(int[] steps) {
            int depth = 0;
            for (int i = 0; i < steps.length; i++) {
                int step = steps[i];
                if (step >= 0 && depth < LINE_ROOM) {
                    stack[depth] = valueOf(step);
                    depth++;
                } else if (step < 0 && depth >= 2) {
                    int left = stack[depth - 2];
                    int right = stack[depth - 1];
                    depth -= 2;
                    if (isComparison(-step)) {
                        if (!compare(-step, left, right)) {
                            return MISSES;
                        }
                    } else {
                        int value = calculate(-step, left, right);
                        if (value == ERROR) {
                            return FAILS;
                        }
                        stack[depth] = value;
                        depth++;
                    }
                }
            }
            return HOLDS;
        }

        private static boolean compare(int sign, int left, int right) {
            switch (sign) {
                case '<':
                    return left < right;
                case '>':
                    return left > right;
                case '=':
                    return left == right;
                default:
                    return left != right;
            }
        }

        private static int calculate(int sign, int left, int right) {
            if (sign == '/') {
                return right == 0 ? ERROR : left / right;
            }
            long value = (long) left * right;
            if (sign == '+') {
                value = (long) left + right;
            } else if (sign == '-') {
                value = (long) left - right;
            }
            return value < -WORTH || value > WORTH ? ERROR : (int) value;
        }
    }
}
