import java.util.Arrays;
import java.util.NoSuchElementException;

/** A small language and its store: jobs run lines of commands over trees of texts, local and shared ones. */
public final class GlobalSpan {
    private static final int MOST_JOBS = 3;
    private static final int MOST_STEPS = 200;
    private static final int MOST_FOLLOWED = 99;

    private final Texts texts;
    private final Code code;
    private final Store store;
    private final Job[] jobs;
    private final Machine[] machines;
    private int jobCount;
    private int kept;

    public GlobalSpan() {
        texts = new Texts();
        code = new Code();
        store = new Store(texts);
        jobs = new Job[MOST_JOBS];
        machines = new Machine[MOST_JOBS];
        kept = Texts.EMPTY;
    }

    // ---- code

    public int node(char kind, int a, int b, int c) throws IllegalArgumentException, IllegalStateException {
        if (!code.isFit(kind, a, b, c)) {
            throw new IllegalArgumentException("no such kind, or an operand is not as told for it");
        }
        if (code.isFull() || code.depthFor(kind, a, b, c) > Code.DEEPEST) {
            throw new IllegalStateException("too many nodes, or too deep");
        }
        return code.add(kind, a, b, c);
    }

    public int line(int line, int node) throws IllegalArgumentException, UnsupportedOperationException {
        checkLine(line);
        if (node != Code.NO_NODE && !code.isListOfCommands(node)) {
            throw new UnsupportedOperationException("no list of commands");
        }
        return code.setLine(line, node);
    }

    public int job(int line) throws IllegalArgumentException, IllegalStateException {
        checkLine(line);
        if (jobCount >= MOST_JOBS) {
            throw new IllegalStateException("too many jobs");
        }
        Job begun = new Job(texts);
        jobs[jobCount] = begun;
        machines[jobCount] = new Machine(texts, code, store, jobs, begun);
        machines[jobCount].start(line);
        jobCount++;
        return jobCount - 1;
    }

    public int run(int job, int steps) throws IndexOutOfBoundsException, IllegalArgumentException {
        Job runner = jobAt(job);
        if (steps < 1 || steps > MOST_STEPS) {
            throw new IllegalArgumentException("steps out of range");
        }
        int made = 0;
        while (made < steps && !runner.isOver()) {
            machines[job].makeStep();
            made++;
        }
        return made;
    }

    public char state(int job) throws IndexOutOfBoundsException {
        return jobAt(job).state;
    }

    public char error(int job) throws IndexOutOfBoundsException, NoSuchElementException {
        Job asked = jobAt(job);
        if (asked.lastError == Job.NO_ERROR) {
            throw new NoSuchElementException("there was no error");
        }
        return asked.lastError;
    }

    public int truth(int job) throws IndexOutOfBoundsException {
        return jobAt(job).truth;
    }

    public int depth(int job) throws IndexOutOfBoundsException {
        return jobAt(job).depth;
    }

    public int steps(int job) throws IndexOutOfBoundsException {
        return jobAt(job).steps;
    }

    public int output(int job) throws IndexOutOfBoundsException {
        return jobAt(job).shownCount;
    }

    public char outputAt(int job, int index) throws IndexOutOfBoundsException, NoSuchElementException {
        Job asked = jobAt(job);
        if (index < 0 || index >= asked.shownCount) {
            throw new NoSuchElementException("no such character");
        }
        return asked.shown[index];
    }

    // ---- what is asked by expressions

    public int look(int job, int node)
            throws IndexOutOfBoundsException, IllegalArgumentException, UnsupportedOperationException {
        checkLook(job, node);
        int text = machines[job].valueSeen(node);
        if (text == Texts.NONE) {
            throw new UnsupportedOperationException("the expression is an error");
        }
        kept = text;
        return texts.lengthOf(text);
    }

    public char lookAt(int index) throws NoSuchElementException {
        if (index < 0 || index >= texts.lengthOf(kept)) {
            throw new NoSuchElementException("no such character");
        }
        return texts.signAt(kept, index);
    }

    public int lookNumber() {
        return texts.numberOf(kept);
    }

    public char lookError(int job, int node) throws IndexOutOfBoundsException, IllegalArgumentException {
        checkLook(job, node);
        return machines[job].valueSeen(node) == Texts.NONE ? machines[job].failure() : '-';
    }

    public int nodes(int global) throws IllegalArgumentException {
        if (global < 0 || global >= Store.GLOBALS) {
            throw new IllegalArgumentException("no such global");
        }
        return store.now.countOf(Job.LOCALS + global);
    }

    // ---- locks, transactions

    public int locks(int job) throws IndexOutOfBoundsException {
        return jobAt(job).claims.heldCount();
    }

    public boolean isDeadlocked(int job) throws IndexOutOfBoundsException {
        jobAt(job);
        int reached = hinderersOf(job);
        for (int round = 0; round < jobCount; round++) {
            for (int other = 0; other < jobCount; other++) {
                if ((reached >> other & 1) == 1) {
                    reached |= hinderersOf(other);
                }
            }
        }
        return (reached >> job & 1) == 1;
    }

    public int waitsFor(int job) throws IndexOutOfBoundsException, UnsupportedOperationException {
        if (jobAt(job).state != Job.WAITING) {
            throw new UnsupportedOperationException("the job does not wait");
        }
        return hinderersOf(job);
    }

    public int level(int job) throws IndexOutOfBoundsException {
        return jobAt(job).level;
    }

    public int restarts(int job) throws IndexOutOfBoundsException {
        return jobAt(job).restarts;
    }

    // ---- the store

    public int written() {
        return store.writtenCount();
    }

    public int flush() {
        return store.bringIn();
    }

    public int journal() {
        return store.journalCount();
    }

    public int image() {
        return store.makeImage();
    }

    public int crash() {
        for (int job = 0; job < jobCount; job++) {
            if (!jobs[job].isOver()) {
                jobs[job].end(Job.CRASHED);
            }
        }
        return store.fallBack();
    }

    public int follow(int changes) throws IllegalArgumentException {
        if (changes < 1 || changes > MOST_FOLLOWED) {
            throw new IllegalArgumentException("changes out of range");
        }
        return store.followSome(changes);
    }

    public int lag() {
        return store.lagCount();
    }

    public boolean isSame() {
        return store.replica.hasAllOf(store.now);
    }

    // ---- figures

    public long checksum() {
        return store.now.sum();
    }

    public float doneShare() throws ArithmeticException {
        if (jobCount == 0) {
            throw new ArithmeticException("there are no jobs");
        }
        int done = 0;
        for (int job = 0; job < jobCount; job++) {
            if (jobs[job].state == Job.DONE) {
                done++;
            }
        }
        return (float) done / (float) jobCount;
    }

    public double meanSteps() throws ArithmeticException {
        if (jobCount == 0) {
            throw new ArithmeticException("there are no jobs");
        }
        int sum = 0;
        for (int job = 0; job < jobCount; job++) {
            sum += jobs[job].steps;
        }
        return (double) sum / (double) jobCount;
    }

    public boolean isSound() {
        for (int job = 0; job < jobCount; job++) {
            Job one = jobs[job];
            if (one.isOver() && (one.claims.heldCount() > 0 || one.level > 0)) {
                return false;
            }
            for (int other = 0; other < job; other++) {
                if (one.claims.isEntangledWith(jobs[other].claims)) {
                    return false;
                }
            }
        }
        return store.isMadeByChanges();
    }

    private static void checkLine(int line) {
        if (line < 0 || line >= Code.LINES) {
            throw new IllegalArgumentException("no such line");
        }
    }

    private Job jobAt(int job) {
        if (job < 0 || job >= jobCount) {
            throw new IndexOutOfBoundsException("no such job");
        }
        return jobs[job];
    }

    private void checkLook(int job, int node) {
        jobAt(job);
        if (!code.isExpression(node) || code.isChanging(node)) {
            throw new IllegalArgumentException("no such expression, or I or F in it");
        }
    }

    /** The jobs that a job waits for, as bits. */
    private int hinderersOf(int job) {
        int bits = 0;
        if (jobs[job].state != Job.WAITING) {
            return bits;
        }
        for (int other = 0; other < jobCount; other++) {
            if (other != job && jobs[job].claims.isHinderedBy(jobs[other].claims)) {
                bits |= 1 << other;
            }
        }
        return bits;
    }

    /**
     * Texts as whole numbers: a text that is a number is that number, any other one is LIMIT plus its place in the
     * table. So the same texts are the same whole numbers, and reckoning makes no objects.
     */
    private static final class Texts {
        static final int NONE = Integer.MIN_VALUE;
        static final int LIMIT = 1000000000;
        static final int EMPTY = LIMIT;
        static final int LONGEST = 40;
        private static final int MOST_DIGITS = 9;
        private static final int CHAINS = 512;

        private char[] signs;
        private int[] ends;
        private int[] behind;
        private int count;
        private int keptCount;
        private final int[] heads;
        private final char[] left;
        private final char[] right;
        private final char[] making;
        private int made;

        Texts() {
            signs = new char[256];
            ends = new int[32];
            behind = new int[32];
            heads = new int[CHAINS];
            left = new char[LONGEST];
            right = new char[LONGEST];
            making = new char[LONGEST];
            // place 0 is the empty text
            count = 1;
        }

        static boolean isNumber(int text) {
            return text > -LIMIT && text < LIMIT;
        }

        int size() {
            return count;
        }

        /** Tells that something has a text from now on, so that it stays. */
        void keep(int text) {
            if (text > LIMIT) {
                keptCount = Math.max(keptCount, text - LIMIT + 1);
            }
        }

        /** Forgets the texts that were made since the table had a size, as long as nothing has them. */
        void release(int size) {
            int least = Math.max(Math.max(size, keptCount), 1);
            for (int place = count - 1; place >= least; place--) {
                heads[chainOf(signs, ends[place - 1], ends[place])] = behind[place];
                count = place;
            }
        }

        int numberOf(int text) {
            if (isNumber(text)) {
                return text;
            }
            int length = write(text, left);
            int from = length > 0 && left[0] == '-' ? 1 : 0;
            int to = Math.min(length, from + MOST_DIGITS);
            int number = 0;
            for (int at = from; at < to && isDigit(left[at]); at++) {
                number = number * 10 + (left[at] - '0');
            }
            return from == 1 ? -number : number;
        }

        boolean isTrue(int text) {
            return numberOf(text) != 0;
        }

        int lengthOf(int text) {
            return write(text, left);
        }

        char signAt(int text, int index) {
            int length = write(text, left);
            return index >= 0 && index < length ? left[index] : ' ';
        }

        /** Writes the characters of a text into an array of LONGEST, and tells how many there are. */
        int write(int text, char[] into) {
            if (isNumber(text)) {
                return writeNumber(text, into);
            }
            int place = text - LIMIT;
            if (place < 1 || place >= count) {
                return 0;
            }
            int start = ends[place - 1];
            int length = ends[place] - start;
            System.arraycopy(signs, start, into, 0, length);
            return length;
        }

        private static int writeNumber(int number, char[] into) {
            int first = number < 0 ? 1 : 0;
            int length = first + 1;
            int rest = Math.abs(number);
            for (int tens = rest / 10; tens > 0; tens /= 10) {
                length++;
            }
            for (int at = length - 1; at >= first; at--) {
                into[at] = (char) ('0' + rest % 10);
                rest /= 10;
            }
            if (first == 1) {
                into[0] = '-';
            }
            return length;
        }

        /** Begins a text that is put together by add and addText, until made tells it. */
        void begin() {
            made = 0;
        }

        void add(char sign) {
            if (made < LONGEST) {
                making[made] = sign;
                made++;
            }
        }

        void addText(int text) {
            int length = write(text, right);
            for (int at = 0; at < length; at++) {
                add(right[at]);
            }
        }

        int made() {
            return of(making, 0, made);
        }

        int joined(int ahead, int other) {
            begin();
            addText(ahead);
            addText(other);
            return of(making, 0, made);
        }

        /** The characters of a text from one place to another, the first one being 1. */
        int cut(int text, int from, int to) {
            int length = write(text, left);
            return of(left, Math.max(from, 1) - 1, Math.min(to, length));
        }

        /** The piece of a text between others that are not empty, from 1. */
        int piece(int text, int by, int which) {
            int length = write(text, left);
            int width = write(by, right);
            int piece = 1;
            int start = 0;
            int at = 0;
            while (width > 0 && at + width <= length) {
                if (!isRightAt(at, width)) {
                    at++;
                } else if (piece == which) {
                    return of(left, start, at);
                } else {
                    piece++;
                    at += width;
                    start = at;
                }
            }
            return piece == which ? of(left, start, length) : EMPTY;
        }

        boolean contains(int text, int other) {
            int length = write(text, left);
            int width = write(other, right);
            for (int at = 0; at + width <= length; at++) {
                if (isRightAt(at, width)) {
                    return true;
                }
            }
            return false;
        }

        private boolean isRightAt(int at, int width) {
            for (int i = 0; i < width; i++) {
                if (left[at + i] != right[i]) {
                    return false;
                }
            }
            return true;
        }

        boolean comesBehind(int text, int other) {
            int length = write(text, left);
            int width = write(other, right);
            int least = Math.min(length, width);
            for (int at = 0; at < least; at++) {
                if (left[at] != right[at]) {
                    return left[at] > right[at];
                }
            }
            return length > width;
        }

        /** The order of rows: NONE is ahead, then numbers by their size, then other texts by their characters. */
        int orderRows(int[] some, int at, int[] others, int otherAt) {
            int key = 0;
            while (key < Tree.KEYS - 1 && some[at + key] == others[otherAt + key]) {
                key++;
            }
            int one = some[at + key] - LIMIT;
            int other = others[otherAt + key] - LIMIT;
            if (one < 1 || other < 1 || one >= count || other >= count) {
                // NONE is the least whole number, and numbers are less than all places of other texts
                return Integer.compare(some[at + key], others[otherAt + key]);
            }
            int start = ends[one - 1];
            int otherStart = ends[other - 1];
            int length = ends[one] - start;
            int otherLength = ends[other] - otherStart;
            int least = Math.min(length, otherLength);
            for (int i = 0; i < least; i++) {
                if (signs[start + i] != signs[otherStart + i]) {
                    return signs[start + i] < signs[otherStart + i] ? -1 : 1;
                }
            }
            return Integer.compare(length, otherLength);
        }

        long addTo(long sum, int text) {
            long total = sum;
            int length = write(text, left);
            for (int at = 0; at < length; at++) {
                total = 31 * total + left[at];
            }
            return total;
        }

        private static boolean isDigit(char sign) {
            return sign >= '0' && sign <= '9';
        }

        private int of(char[] from, int start, int end) {
            if (start >= end) {
                return EMPTY;
            }
            int number = numberWritten(from, start, end);
            return number != NONE ? number : LIMIT + placeOf(from, start, end);
        }

        /** The number that is written as one would be, else NONE. */
        private static int numberWritten(char[] from, int start, int end) {
            int first = from[start] == '-' ? start + 1 : start;
            int digits = end - first;
            if (digits < 1 || digits > MOST_DIGITS || from[first] == '0' && end - start > 1) {
                return NONE;
            }
            int number = 0;
            for (int at = first; at < end; at++) {
                if (!isDigit(from[at])) {
                    return NONE;
                }
                number = number * 10 + (from[at] - '0');
            }
            return first > start ? -number : number;
        }

        /** The place of a text in the table, a new one if it is not there yet. */
        private int placeOf(char[] from, int start, int end) {
            int chain = chainOf(from, start, end);
            for (int place = heads[chain]; place != 0; place = behind[place]) {
                if (isAtPlace(place, from, start, end)) {
                    return place;
                }
            }
            append(from, start, end - start);
            // the newest one leads its chain, so that places in it only go down, and release finds it first
            behind[count - 1] = heads[chain];
            heads[chain] = count - 1;
            return count - 1;
        }

        private static int chainOf(char[] from, int start, int end) {
            int hash = 0;
            for (int at = start; at < end; at++) {
                hash = 31 * hash + from[at];
            }
            return hash & (CHAINS - 1);
        }

        private void append(char[] from, int start, int length) {
            int used = ends[count - 1];
            if (used + length > signs.length) {
                char[] more = new char[2 * (used + length)];
                System.arraycopy(signs, 0, more, 0, used);
                signs = more;
            }
            if (count >= ends.length) {
                ends = Arrays.copyOf(ends, 2 * count);
                behind = Arrays.copyOf(behind, 2 * count);
            }
            System.arraycopy(from, start, signs, used, length);
            ends[count] = used + length;
            count++;
        }

        private boolean isAtPlace(int place, char[] from, int start, int end) {
            int first = ends[place - 1];
            if (ends[place] - first != end - start) {
                return false;
            }
            for (int i = 0; i < end - start; i++) {
                if (signs[first + i] != from[start + i]) {
                    return false;
                }
            }
            return true;
        }
    }

    /** The nodes and the lines that were told. */
    private static final class Code {
        static final int NO_NODE = -1;
        static final int MOST_NODES = 120;
        static final int DEEPEST = 12;
        static final int LINES = 20;
        private static final int LARGEST = 999999;
        private static final int LOOP_PARTS = 3;
        private static final String COMMANDS = "skmiecdfzqworhluBCR";
        private static final String PARTS = "pbSl3RxXrc";

        private final char[] kinds;
        private final int[] first;
        private final int[] second;
        private final int[] third;
        private final int[] depths;
        private final int[] lengths;
        private final boolean[] hasOnlyReferences;
        private final boolean[] isChanging;
        private final int[] lines;
        private int count;

        Code() {
            kinds = new char[MOST_NODES];
            first = new int[MOST_NODES];
            second = new int[MOST_NODES];
            third = new int[MOST_NODES];
            depths = new int[MOST_NODES];
            lengths = new int[MOST_NODES];
            hasOnlyReferences = new boolean[MOST_NODES];
            isChanging = new boolean[MOST_NODES];
            lines = new int[LINES];
            Arrays.fill(lines, NO_NODE);
        }

        char kind(int node) {
            return isNode(node) ? kinds[node] : ' ';
        }

        int a(int node) {
            return isNode(node) ? first[node] : NO_NODE;
        }

        int b(int node) {
            return isNode(node) ? second[node] : NO_NODE;
        }

        int c(int node) {
            return isNode(node) ? third[node] : NO_NODE;
        }

        int listOf(int line) {
            return line >= 0 && line < LINES ? lines[line] : NO_NODE;
        }

        int setLine(int line, int node) {
            int before = listOf(line);
            if (line >= 0 && line < LINES) {
                lines[line] = node;
            }
            return before;
        }

        boolean isFull() {
            return count >= MOST_NODES;
        }

        boolean isChanging(int node) {
            return isNode(node) && isChanging[node];
        }

        boolean isExpression(int node) {
            return isNode(node) && kinds[node] != ',' && !isCommand(node);
        }

        boolean isListOfCommands(int node) {
            return isList(node) && isCommand(first[node]);
        }

        private boolean isNode(int node) {
            return node >= 0 && node < count;
        }

        private boolean isCommand(int node) {
            return isNode(node) && COMMANDS.indexOf(kinds[node]) >= 0;
        }

        private boolean isReference(int node) {
            return isNode(node) && (kinds[node] == 'v' || kinds[node] == 'g' || kinds[node] == 'n');
        }

        private boolean isList(int node) {
            return isNode(node) && kinds[node] == ',';
        }

        private boolean isListOfExpressions(int node) {
            return isList(node) && isExpression(first[node]);
        }

        private boolean isLine(int line) {
            return line >= 0 && line < LINES;
        }

        /**
         * What the three operands of a kind are: x an expression, r a reference, c a command, l a list of
         * expressions, 3 one of three of these, R one of references, n a line, v a local, g a global, w bits,
         * # a number, t a character, p a part of a list, b the list behind it; X, S and N are x, l and n or -1;
         * a point is without meaning. The empty text is for no kind.
         */
        private static String shapeOf(char kind) {
            switch (kind) {
                case '#': return "#..";
                case 't': return "ttt";
                case ',': return "pb.";
                case 'v': return "vS.";
                case 'g': return "gS.";
                case 'n': return "l..";
                case '+': case '-': case '*': case '/': case '%': case '_': case '=': case '<': case '>':
                case '[': case ']': case '&': case '|': return "xx.";
                case '!': case 'L': case 'i': case 'o': return "x..";
                case 'D': case 'O': case 'Q': case 'k': return "r..";
                case 'G': case 'I': case 's': return "rx.";
                case 'E': case 'P': case 'S': return "xxx";
                case 'F': return "nS.";
                case 'm': return "rr.";
                case 'c': return "xc.";
                case 'd': return "n..";
                case 'f': return "v3n";
                case 'q': return "X..";
                case 'w': return "w..";
                case 'r': return "N..";
                case 'l': return "RX.";
                case 'T': case 'e': case 'z': case 'h': case 'u': case 'B': case 'C': case 'R': return "...";
                default: return "";
            }
        }

        boolean isFit(char kind, int a, int b, int c) {
            String shape = shapeOf(kind);
            return !shape.isEmpty() && isOperand(shape.charAt(0), a) && isOperand(shape.charAt(1), b)
                && isOperand(shape.charAt(2), c) && (kind != ',' || isLikeTheRest(a, b));
        }

        private boolean isLikeTheRest(int part, int list) {
            return list == NO_NODE || isListOfCommands(list) == isCommand(part);
        }

        private boolean isOperand(char what, int operand) {
            switch (what) {
                case 'x': return isExpression(operand);
                case 'X': return operand == NO_NODE || isExpression(operand);
                case 'r': return isReference(operand);
                case 'c': return isCommand(operand);
                case 'l': return isListOfExpressions(operand);
                case 'S': return operand == NO_NODE || isListOfExpressions(operand);
                case '3': return isListOfExpressions(operand) && lengths[operand] == LOOP_PARTS;
                case 'R': return isList(operand) && hasOnlyReferences[operand];
                case 'n': return isLine(operand);
                case 'N': return operand == NO_NODE || isLine(operand);
                case 'p': return isExpression(operand) || isCommand(operand);
                case 'b': return operand == NO_NODE || isList(operand);
                case 'v': return operand >= 0 && operand < Job.LOCALS;
                case 'g': return operand >= 0 && operand < Store.GLOBALS;
                case 'w': return operand >= 1 && operand < 1 << Job.LOCALS;
                case '#': return operand >= -LARGEST && operand <= LARGEST;
                case 't': return operand == 0 || operand >= 32 && operand <= 126;
                default: return true;
            }
        }

        private boolean isPart(char what, int operand) {
            return PARTS.indexOf(what) >= 0 && isNode(operand);
        }

        /** The depth that a node would have: a list behind a part of a list counts as it is. */
        int depthFor(char kind, int a, int b, int c) {
            String shape = shapeOf(kind);
            int depth = 1;
            if (shape.isEmpty()) {
                return depth;
            }
            if (isPart(shape.charAt(0), a)) {
                depth = Math.max(depth, depths[a] + 1);
            }
            if (isPart(shape.charAt(1), b)) {
                depth = Math.max(depth, kind == ',' ? depths[b] : depths[b] + 1);
            }
            if (isPart(shape.charAt(2), c)) {
                depth = Math.max(depth, depths[c] + 1);
            }
            return depth;
        }

        /** Adds a node that is fit, and returns its number. */
        int add(char kind, int a, int b, int c) {
            String shape = shapeOf(kind);
            if (isFull() || shape.isEmpty()) {
                return NO_NODE;
            }
            int node = count;
            depths[node] = depthFor(kind, a, b, c);
            isChanging[node] = kind == 'I' || kind == 'F' || isChangingPart(shape.charAt(0), a)
                || isChangingPart(shape.charAt(1), b) || isChangingPart(shape.charAt(2), c);
            if (kind == ',') {
                lengths[node] = isNode(b) ? lengths[b] + 1 : 1;
                hasOnlyReferences[node] = isReference(a) && (!isNode(b) || hasOnlyReferences[b]);
            }
            kinds[node] = kind;
            first[node] = a;
            second[node] = b;
            third[node] = c;
            count++;
            return node;
        }

        private boolean isChangingPart(char what, int operand) {
            return isPart(what, operand) && isChanging[operand];
        }
    }

    /** Rows of four keys, a name and up to three subscripts, NONE behind these, with a text each, in order. */
    private static final class Tree {
        static final int KEYS = 4;
        static final int WIDTH = 5;
        private static final int FEWEST = 4;

        private final Texts texts;
        private int[] cells;
        private int count;

        Tree(Texts texts) {
            this.texts = texts;
            cells = new int[0];
        }

        static int depthOf(int[] row) {
            int depth = 0;
            while (depth < KEYS && row[depth] != Texts.NONE) {
                depth++;
            }
            return depth;
        }

        int size() {
            return count;
        }

        void clear() {
            count = 0;
        }

        int textAt(int place) {
            return place >= 0 && place < count ? cells[place * WIDTH + KEYS] : Texts.NONE;
        }

        int keyAt(int place, int key) {
            return place >= 0 && place < count && key >= 0 && key < KEYS ? cells[place * WIDTH + key] : Texts.NONE;
        }

        /** The text of a row, NONE without one. */
        int get(int[] row) {
            int place = placeOf(row, 0);
            return isRow(place, row, 0) ? textAt(place) : Texts.NONE;
        }

        /** Gives a row a text; by NONE it is killed, with all below it. */
        void set(int[] row, int at, int text) {
            int place = placeOf(row, at);
            if (text == Texts.NONE) {
                dropRows(place, endOf(place, row, at));
                return;
            }
            if (!isRow(place, row, at)) {
                makeRoom(count + 1);
                System.arraycopy(cells, place * WIDTH, cells, (place + 1) * WIDTH, (count - place) * WIDTH);
                System.arraycopy(row, at, cells, place * WIDTH, KEYS);
                count++;
            }
            cells[place * WIDTH + KEYS] = text;
        }

        void copy(Tree other) {
            makeRoom(other.count);
            System.arraycopy(other.cells, 0, cells, 0, other.count * WIDTH);
            count = other.count;
        }

        void dropName(int name) {
            dropRows(placeOfName(name), placeOfName(name + 1));
        }

        /** Has the rows of a name as another tree has them. */
        void copyName(Tree other, int name) {
            int from = placeOfName(name);
            int to = placeOfName(name + 1);
            int otherFrom = other.placeOfName(name);
            int length = other.placeOfName(name + 1) - otherFrom;
            makeRoom(count + length);
            System.arraycopy(cells, to * WIDTH, cells, (from + length) * WIDTH, (count - to) * WIDTH);
            System.arraycopy(other.cells, otherFrom * WIDTH, cells, from * WIDTH, length * WIDTH);
            count += length - (to - from);
        }

        /** Puts all rows of another tree that are this one or below it. */
        void addBelow(Tree other, int[] row) {
            int from = other.placeOf(row, 0);
            int to = other.endOf(from, row, 0);
            for (int place = from; place < to; place++) {
                set(other.cells, place * WIDTH, other.textAt(place));
            }
        }

        boolean hasBelow(int[] row) {
            int place = placeOf(row, 0);
            return isWithin(isRow(place, row, 0) ? place + 1 : place, row, 0);
        }

        /**
         * The key in the place of the row's last one that comes behind it, or ahead of it; the empty text is ahead
         * of all, or behind all, and comes if there is none.
         */
        int nextKey(int[] row, boolean isBackward) {
            int last = depthOf(row) - 1;
            if (last < 1) {
                return Texts.EMPTY;
            }
            int own = row[last];
            boolean isOpen = own == Texts.EMPTY;
            if (isOpen) {
                row[last] = Texts.NONE;
            }
            int from = placeOf(row, 0);
            int place = isBackward ? (isOpen ? endOf(from, row, 0) : from) - 1 : endOf(from, row, 0);
            if (isOpen && !isBackward) {
                place = isRow(from, row, 0) ? from + 1 : from;
            }
            row[last] = Texts.NONE;
            boolean isThere = isWithin(place, row, 0) && keyAt(place, last) != Texts.NONE;
            row[last] = own;
            return isThere ? keyAt(place, last) : Texts.EMPTY;
        }

        /** The subscripts of the next row of the same name with commas between, the empty text if there is none. */
        int nextRow(int[] row) {
            int place = placeOf(row, 0);
            if (isRow(place, row, 0)) {
                place++;
            }
            texts.begin();
            if (place < count && keyAt(place, 0) == row[0]) {
                texts.addText(keyAt(place, 1));
                for (int key = 2; key < KEYS && keyAt(place, key) != Texts.NONE; key++) {
                    texts.add(',');
                    texts.addText(keyAt(place, key));
                }
            }
            return texts.made();
        }

        int countOf(int name) {
            return placeOfName(name + 1) - placeOfName(name);
        }

        boolean hasAllOf(Tree other) {
            return count == other.count && isLike(0, other, 0, count);
        }

        /** Whether another tree has the same rows, with the same texts, at this one and below it. */
        boolean isSameBelow(Tree other, int[] row, int at) {
            int from = placeOf(row, at);
            int length = endOf(from, row, at) - from;
            int otherFrom = other.placeOf(row, at);
            return other.endOf(otherFrom, row, at) - otherFrom == length && isLike(from, other, otherFrom, length);
        }

        boolean isSameAtAll(Tree other, Tree rows) {
            for (int place = 0; place < rows.count; place++) {
                if (!isSameBelow(other, rows.cells, place * WIDTH)) {
                    return false;
                }
            }
            return true;
        }

        /** Whether a row here leads to that one, or that one to a row here. */
        boolean meets(int[] row, int at) {
            for (int place = 0; place < count; place++) {
                if (isOnTheWay(place * WIDTH, row, at)) {
                    return true;
                }
            }
            return false;
        }

        boolean meetsAnyOf(Tree other) {
            for (int place = 0; place < other.count; place++) {
                if (meets(other.cells, place * WIDTH)) {
                    return true;
                }
            }
            return false;
        }

        long sum() {
            long sum = 7;
            for (int place = 0; place < count; place++) {
                int depth = 1;
                while (depth < KEYS && keyAt(place, depth) != Texts.NONE) {
                    depth++;
                }
                sum = 31 * sum + (depth - 1);
                for (int key = 1; key < depth; key++) {
                    sum = texts.addTo(sum, keyAt(place, key));
                }
                sum = texts.addTo(sum, textAt(place));
            }
            return sum;
        }

        private boolean isOnTheWay(int start, int[] row, int at) {
            for (int key = 0; key < KEYS; key++) {
                int own = cells[start + key];
                int other = row[at + key];
                if (own == Texts.NONE || other == Texts.NONE) {
                    return true;
                }
                if (own != other) {
                    return false;
                }
            }
            return true;
        }

        private boolean isLike(int from, Tree other, int otherFrom, int length) {
            for (int i = 0; i < length * WIDTH; i++) {
                if (cells[from * WIDTH + i] != other.cells[otherFrom * WIDTH + i]) {
                    return false;
                }
            }
            return true;
        }

        /** The first place whose row is not ahead of this one. */
        private int placeOf(int[] row, int at) {
            int low = 0;
            int high = count;
            while (low < high) {
                int middle = (low + high) / 2;
                if (texts.orderRows(cells, middle * WIDTH, row, at) < 0) {
                    low = middle + 1;
                } else {
                    high = middle;
                }
            }
            return low;
        }

        /** The first place behind the rows that are this one or below it. */
        private int endOf(int from, int[] row, int at) {
            int end = from;
            while (end < count && isWithin(end, row, at)) {
                end++;
            }
            return end;
        }

        /** The first place whose name is not a lesser one. */
        private int placeOfName(int name) {
            int place = 0;
            while (place < count && cells[place * WIDTH] < name) {
                place++;
            }
            return place;
        }

        private boolean isRow(int place, int[] row, int at) {
            if (place < 0 || place >= count) {
                return false;
            }
            for (int key = 0; key < KEYS; key++) {
                if (cells[place * WIDTH + key] != row[at + key]) {
                    return false;
                }
            }
            return true;
        }

        private boolean isWithin(int place, int[] row, int at) {
            if (place < 0 || place >= count) {
                return false;
            }
            for (int key = 0; key < KEYS && row[at + key] != Texts.NONE; key++) {
                if (cells[place * WIDTH + key] != row[at + key]) {
                    return false;
                }
            }
            return true;
        }

        private void dropRows(int from, int to) {
            System.arraycopy(cells, to * WIDTH, cells, from * WIDTH, (count - to) * WIDTH);
            count -= to - from;
        }

        private void makeRoom(int rows) {
            if (rows * WIDTH > cells.length) {
                cells = Arrays.copyOf(cells, Math.max(FEWEST, 2 * rows) * WIDTH);
            }
        }
    }

    /** Changes of globals behind each other: values that nodes got, and kills, that are NONE. */
    private static final class Changes {
        private static final int FEWEST = 8;

        private int[] cells;
        private int count;

        Changes() {
            cells = new int[0];
        }

        int size() {
            return count;
        }

        void shorten(int size) {
            count = Math.min(count, Math.max(size, 0));
        }

        void add(int[] row, int text) {
            int start = count * Tree.WIDTH;
            if (start + Tree.WIDTH > cells.length) {
                cells = Arrays.copyOf(cells, Math.max(FEWEST, 2 * (count + 1)) * Tree.WIDTH);
            }
            System.arraycopy(row, 0, cells, start, Tree.KEYS);
            cells[start + Tree.KEYS] = text;
            count++;
        }

        int textAt(int place) {
            return place >= 0 && place < count ? cells[place * Tree.WIDTH + Tree.KEYS] : Texts.NONE;
        }

        void readRow(int place, int[] row) {
            if (place >= 0 && place < count) {
                System.arraycopy(cells, place * Tree.WIDTH, row, 0, Tree.KEYS);
            }
        }

        /** Makes the changes from one place to another in a tree. */
        void make(int from, int to, Tree tree) {
            int end = Math.min(to, count);
            for (int place = Math.max(from, 0); place < end; place++) {
                tree.set(cells, place * Tree.WIDTH, cells[place * Tree.WIDTH + Tree.KEYS]);
            }
        }
    }

    /** The globals of now, what was written, the journal, the image and the replica. */
    private static final class Store {
        static final int GLOBALS = 4;

        final Tree now;
        final Tree replica;
        private final Tree image;
        private final Tree trial;
        private final Changes changes;
        private int flushed;
        private int imaged;
        private int followed;

        Store(Texts texts) {
            now = new Tree(texts);
            replica = new Tree(texts);
            image = new Tree(texts);
            trial = new Tree(texts);
            changes = new Changes();
        }

        /** Gives a node a value, or kills it by NONE. */
        void change(int[] row, int text) {
            changes.add(row, text);
            now.set(row, 0, text);
        }

        int writtenCount() {
            return changes.size() - flushed;
        }

        int journalCount() {
            return flushed;
        }

        int bringIn() {
            flushed = changes.size();
            return flushed;
        }

        int makeImage() {
            changes.make(imaged, flushed, image);
            imaged = flushed;
            return imaged;
        }

        /** Loses what was not flushed, and tells how much that was. */
        int fallBack() {
            int lost = writtenCount();
            changes.shorten(flushed);
            remake(now);
            return lost;
        }

        int followSome(int most) {
            int to = Math.min(flushed, followed + most);
            changes.make(followed, to, replica);
            followed = to;
            return followed;
        }

        int lagCount() {
            return flushed - followed;
        }

        boolean isMadeByChanges() {
            remake(trial);
            return trial.hasAllOf(now);
        }

        private void remake(Tree tree) {
            tree.copy(image);
            changes.make(imaged, changes.size(), tree);
        }
    }

    /** What is left of a line, with its loop, its trap and the locals that come back. */
    private static final class Frame {
        static final int NO_TRAP = -1;

        int next;
        int trap;
        int loop;
        int step;
        int last;
        boolean isFirst;
        int given;
        private int savedBits;
        private final Tree saved;

        Frame(Texts texts) {
            saved = new Tree(texts);
        }

        void begin(int list) {
            next = list;
            trap = NO_TRAP;
            loop = Code.NO_NODE;
            given = Texts.NONE;
            savedBits = 0;
            saved.clear();
        }

        boolean isFinished() {
            return next == Code.NO_NODE && loop == Code.NO_NODE;
        }

        /** Goes on with another list in place of what is left. */
        void replace(int list) {
            next = list;
            loop = Code.NO_NODE;
        }

        /** Takes the values of locals until the frame ends; those that it has already are the ones to come back. */
        void save(Tree locals, int bits) {
            for (int name = 0; name < Job.LOCALS; name++) {
                if ((bits >> name & 1) == 1) {
                    if ((savedBits >> name & 1) == 0) {
                        saved.copyName(locals, name);
                    }
                    locals.dropName(name);
                }
            }
            savedBits |= bits;
        }

        void giveBack(Tree locals) {
            for (int name = 0; name < Job.LOCALS; name++) {
                if ((savedBits >> name & 1) == 1) {
                    locals.copyName(saved, name);
                }
            }
            savedBits = 0;
        }

        void copy(Frame other) {
            next = other.next;
            trap = other.trap;
            loop = other.loop;
            step = other.step;
            last = other.last;
            isFirst = other.isFirst;
            given = other.given;
            savedBits = other.savedBits;
            saved.copy(other.saved);
        }
    }

    /** What a job has locked, and what it waits to lock. */
    private static final class Claims {
        private final Tree held;
        private int count;
        private final int[] wanted;
        private int wantedCount;
        boolean isCounted;
        int triesLeft;

        Claims(Texts texts) {
            held = new Tree(texts);
            wanted = new int[Code.MOST_NODES * Tree.KEYS];
        }

        int heldCount() {
            return count;
        }

        void wantNothing() {
            wantedCount = 0;
        }

        void want(int[] row) {
            if (wantedCount < Code.MOST_NODES) {
                System.arraycopy(row, 0, wanted, wantedCount * Tree.KEYS, Tree.KEYS);
                wantedCount++;
            }
        }

        void take() {
            for (int i = 0; i < wantedCount; i++) {
                held.set(wanted, i * Tree.KEYS, 1);
            }
            count += wantedCount;
        }

        void giveUp() {
            held.clear();
            count = 0;
        }

        boolean isHinderedBy(Claims other) {
            for (int i = 0; i < wantedCount; i++) {
                if (other.held.meets(wanted, i * Tree.KEYS)) {
                    return true;
                }
            }
            return false;
        }

        boolean isEntangledWith(Claims other) {
            return held.meetsAnyOf(other.held);
        }
    }

    /** The globals as a transaction sees them, what it read and changed, and the job as it was as it began. */
    private static final class Transaction {
        static final int MOST_RESTARTS = 3;

        final Tree seen;
        int restarted;
        final Tree atFirst;
        final Tree read;
        final Changes changes;
        private final Tree locals;
        private final Frame[] frames;
        private final int[] remembered;
        private int depth;
        private int truth;

        Transaction(Texts texts) {
            seen = new Tree(texts);
            atFirst = new Tree(texts);
            read = new Tree(texts);
            changes = new Changes();
            locals = new Tree(texts);
            frames = new Frame[Job.FRAMES];
            for (int i = 0; i < Job.FRAMES; i++) {
                frames[i] = new Frame(texts);
            }
            remembered = new int[Tree.KEYS];
        }

        void begin(Tree globals) {
            seen.copy(globals);
            atFirst.copy(globals);
            read.clear();
            changes.shorten(0);
        }

        void change(int[] row, int text) {
            changes.add(row, text);
            seen.set(row, 0, text);
        }

        void keep(Job job) {
            restarted = 0;
            locals.copy(job.locals);
            for (int i = 0; i < job.depth; i++) {
                frames[i].copy(job.frames[i]);
            }
            System.arraycopy(job.remembered, 0, remembered, 0, Tree.KEYS);
            depth = job.depth;
            truth = job.truth;
        }

        void bringBack(Job job) {
            restarted++;
            job.locals.copy(locals);
            for (int i = 0; i < depth; i++) {
                job.frames[i].copy(frames[i]);
            }
            System.arraycopy(remembered, 0, job.remembered, 0, Tree.KEYS);
            job.depth = depth;
            job.truth = truth;
        }
    }

    /** A job: where it is, what it has and what it did. */
    private static final class Job {
        static final char READY = 'r';
        static final char WAITING = 'w';
        static final char DONE = 'd';
        static final char FAILED = 'e';
        static final char CRASHED = 'x';
        static final char NO_ERROR = ' ';
        static final int LOCALS = 8;
        static final int FRAMES = 10;
        private static final int MOST_SHOWN = 200;

        char state;
        char lastError;
        int truth;
        int steps;
        int level;
        int restarts;
        int depth;
        int shownCount;
        final char[] shown;
        final Tree locals;
        final Frame[] frames;
        final int[] remembered;
        final Claims claims;
        final Transaction transaction;

        Job(Texts texts) {
            state = READY;
            lastError = NO_ERROR;
            shown = new char[MOST_SHOWN];
            locals = new Tree(texts);
            frames = new Frame[FRAMES];
            for (int i = 0; i < FRAMES; i++) {
                frames[i] = new Frame(texts);
            }
            remembered = new int[Tree.KEYS];
            Arrays.fill(remembered, Texts.NONE);
            claims = new Claims(texts);
            transaction = new Transaction(texts);
        }

        boolean isOver() {
            return state != READY && state != WAITING;
        }

        /** The last frame; there is one as long as the job is not over. */
        Frame last() {
            return frames[Math.max(depth, 1) - 1];
        }

        void beginFrame(int list) {
            if (depth < FRAMES) {
                frames[depth].begin(list);
                depth++;
            }
        }

        void endFrames(int rest) {
            for (int i = depth; i > rest; i--) {
                last().giveBack(locals);
                depth = i - 1;
            }
        }

        /** Ends the frames from the last one on that have nothing left, as the end of a line is no step. */
        void endFinished(int rest) {
            for (int i = depth; i > rest && last().isFinished(); i--) {
                endFrames(i - 1);
            }
        }

        void save(int bits) {
            last().save(locals, bits);
        }

        void show(char sign) {
            if (shownCount < MOST_SHOWN) {
                shown[shownCount] = sign;
                shownCount++;
            }
        }

        void end(char how) {
            endFrames(0);
            claims.giveUp();
            level = 0;
            state = how;
        }
    }

    /**
     * Does the commands and the expressions of a job. An error gives NONE, or false for what gives no text, and its
     * letter is kept; it is no exception, as a long run may have so many that these would fill the room.
     */
    private static final class Machine {
        private static final int CALL_STEPS = 200;
        private static final int ALL_LOCALS = 255;
        // six calls at most stand within the parts of one another in a frame, as nodes are 12 deep
        private static final int MOST_GIVEN = 6 * Job.LOCALS * Job.FRAMES;
        private static final int PLAIN = 0;
        private static final int ORDERED = 1;
        private static final int LOCKED = 2;

        private final Texts texts;
        private final Code code;
        private final Store store;
        private final Job[] jobs;
        private final Job job;
        private final int[] place;
        private final int[] target;
        private final int[] readRow;
        private final Tree merged;
        private final int[] given;
        private int givenCount;
        private char failure;
        private boolean isLooking;
        private int calls;
        private int callSteps;
        private int callBottom;

        Machine(Texts texts, Code code, Store store, Job[] jobs, Job job) {
            this.texts = texts;
            this.code = code;
            this.store = store;
            this.jobs = jobs;
            this.job = job;
            place = new int[Tree.KEYS];
            target = new int[Tree.KEYS];
            readRow = new int[Tree.KEYS];
            merged = new Tree(texts);
            given = new int[MOST_GIVEN];
            failure = Job.NO_ERROR;
        }

        char failure() {
            return failure;
        }

        void start(int line) {
            job.beginFrame(code.listOf(line));
            goOn();
        }

        void makeStep() {
            job.steps++;
            if (job.state == Job.WAITING) {
                tryToLock();
            } else if (!step(0)) {
                job.end(Job.FAILED);
            }
            goOn();
        }

        /** What comes of an expression as the job sees all, NONE if it is an error. */
        int valueSeen(int node) {
            int before = texts.size();
            isLooking = true;
            int text = value(node);
            isLooking = false;
            texts.keep(text);
            texts.release(before);
            return text;
        }

        /** Ends the frames that have nothing left, and the job that has none. */
        private void goOn() {
            if (job.state == Job.READY) {
                job.endFinished(0);
                if (job.depth == 0) {
                    job.end(Job.DONE);
                }
            }
        }

        /** An error in place of a text. */
        private int noText(char letter) {
            failure = letter;
            return Texts.NONE;
        }

        /** An error of what gives no text. */
        private boolean notDone(char letter) {
            failure = letter;
            return false;
        }

        // ---- steps

        /** Does a step in the frames from the bottom on; false if an error ended all of these. */
        private boolean step(int bottom) {
            int partsBefore = givenCount;
            int textsBefore = texts.size();
            boolean isGoingOn = advance() || isCaught(bottom);
            givenCount = partsBefore;
            texts.release(textsBefore);
            return isGoingOn;
        }

        /** Ends frames down to one with a trap. A call that went too far has none. */
        private boolean isCaught(int bottom) {
            job.lastError = failure;
            boolean hasTraps = failure != 'y' || calls == 0;
            for (int i = job.depth; i > bottom; i--) {
                Frame frame = job.last();
                if (hasTraps && frame.trap != Frame.NO_TRAP) {
                    frame.replace(code.listOf(frame.trap));
                    frame.trap = Frame.NO_TRAP;
                    return true;
                }
                job.endFrames(i - 1);
            }
            return false;
        }

        private boolean advance() {
            Frame frame = job.last();
            if (frame.loop != Code.NO_NODE) {
                return goOnWithLoop(frame);
            }
            int list = frame.next;
            frame.next = code.b(list);
            return command(code.a(list));
        }

        private boolean beginLine(int line) {
            if (job.depth >= Job.FRAMES) {
                return notDone('f');
            }
            job.beginFrame(code.listOf(line));
            return true;
        }

        // ---- commands

        /** Does a command; false if it is an error. */
        private boolean command(int node) {
            int a = code.a(node);
            int b = code.b(node);
            switch (code.kind(node)) {
                case 's': return set(a, b);
                case 'k': return kill(a);
                case 'm': return merge(a, b);
                case 'i': return decide(value(a));
                case 'e': leaveOut(job.truth == 1); return true;
                case 'c': {
                    int text = value(a);
                    return text != Texts.NONE && (!texts.isTrue(text) || command(b));
                }
                case 'd': return beginLine(a);
                case 'f': return beginLoop(node, a, b);
                case 'z': return endLoop();
                case 'q': return quit(a);
                case 'w': job.save(a); return true;
                case 'o': return show(value(a));
                case 'r': job.last().trap = a; return true;
                default: return jobCommand(code.kind(node), a, b);
            }
        }

        /** The commands that a call must not do. */
        private boolean jobCommand(char kind, int a, int b) {
            if (calls > 0) {
                return notDone('x');
            }
            switch (kind) {
                case 'h': job.end(Job.DONE); return true;
                case 'l': return lock(a, b);
                case 'u': job.claims.giveUp(); return true;
                case 'B': beginTransaction(); return true;
                case 'C': return job.level == 0 ? notDone('t') : endTransaction();
                case 'R': return job.level == 0 ? notDone('t') : rollBack();
                default: return true;
            }
        }

        private boolean set(int reference, int expression) {
            int text = value(expression);
            if (text == Texts.NONE || !refer(reference, PLAIN)) {
                return false;
            }
            change(text);
            return true;
        }

        private boolean kill(int reference) {
            if (!refer(reference, PLAIN)) {
                return false;
            }
            noteRead(Tree.KEYS);
            change(Texts.NONE);
            return true;
        }

        private boolean merge(int to, int from) {
            if (!refer(from, PLAIN)) {
                return false;
            }
            int name = place[0];
            int first = place[1];
            int second = place[2];
            int third = place[3];
            if (!refer(to, PLAIN)) {
                return false;
            }
            System.arraycopy(place, 0, target, 0, Tree.KEYS);
            setPlace(name, first, second, third);
            noteRead(Tree.KEYS);
            merged.clear();
            merged.addBelow(treeOf(name), place);
            int depth = Tree.depthOf(place);
            for (int i = 0; i < merged.size(); i++) {
                if (isPlacedBehindTarget(i, depth)) {
                    change(merged.textAt(i));
                }
            }
            return true;
        }

        /** Makes the place the target with the keys behind that a merged row has from a depth on, if these fit. */
        private boolean isPlacedBehindTarget(int row, int from) {
            System.arraycopy(target, 0, place, 0, Tree.KEYS);
            int depth = Tree.depthOf(target);
            for (int key = from; key < Tree.KEYS && merged.keyAt(row, key) != Texts.NONE; key++) {
                if (depth >= Tree.KEYS) {
                    return false;
                }
                place[depth] = merged.keyAt(row, key);
                depth++;
            }
            return true;
        }

        private boolean decide(int text) {
            if (text == Texts.NONE) {
                return false;
            }
            job.truth = texts.isTrue(text) ? 1 : 0;
            leaveOut(job.truth == 0);
            return true;
        }

        private void leaveOut(boolean isLeftOut) {
            if (isLeftOut) {
                job.last().next = Code.NO_NODE;
            }
        }

        private boolean quit(int expression) {
            int text = expression == Code.NO_NODE ? Texts.NONE : value(expression);
            if (text == Texts.NONE && expression != Code.NO_NODE) {
                return false;
            }
            texts.keep(text);
            job.last().given = text;
            job.endFrames(job.depth - 1);
            return true;
        }

        private boolean show(int text) {
            if (text == Texts.NONE) {
                return false;
            }
            int length = texts.lengthOf(text);
            for (int at = 0; at < length; at++) {
                job.show(texts.signAt(text, at));
            }
            return true;
        }

        // ---- loops

        private boolean beginLoop(int node, int local, int list) {
            int behind = code.b(list);
            int from = value(code.a(list));
            int step = from == Texts.NONE ? Texts.NONE : value(code.a(behind));
            int last = step == Texts.NONE ? Texts.NONE : value(code.a(code.b(behind)));
            if (last == Texts.NONE) {
                return false;
            }
            Frame frame = job.last();
            frame.loop = node;
            frame.step = texts.numberOf(step);
            frame.last = texts.numberOf(last);
            frame.isFirst = true;
            setPlace(local, Texts.NONE, Texts.NONE, Texts.NONE);
            job.locals.set(place, 0, texts.numberOf(from));
            return true;
        }

        private boolean goOnWithLoop(Frame frame) {
            setPlace(code.a(frame.loop), Texts.NONE, Texts.NONE, Texts.NONE);
            int number = texts.numberOf(job.locals.get(place));
            if (!frame.isFirst) {
                int stepped = reckoned((long) number + frame.step);
                if (stepped == Texts.NONE) {
                    return false;
                }
                number = stepped;
                job.locals.set(place, 0, number);
            }
            frame.isFirst = false;
            if (frame.step >= 0 ? number > frame.last : number < frame.last) {
                frame.loop = Code.NO_NODE;
                return true;
            }
            return beginLine(code.c(frame.loop));
        }

        private boolean endLoop() {
            int at = job.depth - 1;
            while (at >= callBottom && job.frames[at].loop == Code.NO_NODE) {
                at--;
            }
            if (at < callBottom) {
                return notDone('l');
            }
            job.endFrames(at + 1);
            job.last().loop = Code.NO_NODE;
            return true;
        }

        // ---- locks and transactions

        private boolean lock(int list, int tries) {
            Claims claims = job.claims;
            claims.wantNothing();
            for (int part = list; part != Code.NO_NODE; part = code.b(part)) {
                if (!refer(code.a(part), LOCKED)) {
                    return false;
                }
                keepPlace();
                claims.want(place);
            }
            claims.isCounted = tries != Code.NO_NODE;
            if (claims.isCounted) {
                int most = value(tries);
                if (most == Texts.NONE) {
                    return false;
                }
                claims.triesLeft = texts.numberOf(most);
            }
            if (claims.isCounted && claims.triesLeft < 1) {
                job.truth = 0;
            } else {
                tryToLock();
            }
            return true;
        }

        private void tryToLock() {
            Claims claims = job.claims;
            if (!isHindered()) {
                claims.take();
                job.truth = claims.isCounted ? 1 : job.truth;
                job.state = Job.READY;
                return;
            }
            job.state = Job.WAITING;
            if (claims.isCounted) {
                claims.triesLeft--;
                if (claims.triesLeft < 1) {
                    job.truth = 0;
                    job.state = Job.READY;
                }
            }
        }

        private boolean isHindered() {
            for (int i = 0; i < jobs.length; i++) {
                Job other = jobs[i];
                if (other != null && other != job && job.claims.isHinderedBy(other.claims)) {
                    return true;
                }
            }
            return false;
        }

        private void beginTransaction() {
            if (job.level == 0) {
                job.transaction.keep(job);
                job.transaction.begin(store.now);
            }
            job.level++;
        }

        private boolean endTransaction() {
            Transaction transaction = job.transaction;
            if (job.level > 1) {
                job.level--;
            } else if (transaction.atFirst.isSameAtAll(store.now, transaction.read)) {
                job.level = 0;
                for (int i = 0; i < transaction.changes.size(); i++) {
                    transaction.changes.readRow(i, place);
                    store.change(place, transaction.changes.textAt(i));
                }
            } else if (transaction.restarted < Transaction.MOST_RESTARTS) {
                transaction.bringBack(job);
                transaction.begin(store.now);
                job.restarts++;
            } else {
                job.level = 0;
                return notDone('t');
            }
            return true;
        }

        private boolean rollBack() {
            job.level = 0;
            return true;
        }

        // ---- references

        private Tree treeOf(int name) {
            if (name < Job.LOCALS) {
                return job.locals;
            }
            return job.level > 0 ? job.transaction.seen : store.now;
        }

        /** Gives the node at the place a value, or kills it by NONE. */
        private void change(int text) {
            keepPlace();
            texts.keep(text);
            if (place[0] >= Job.LOCALS && job.level > 0) {
                job.transaction.change(place, text);
            } else if (place[0] >= Job.LOCALS) {
                store.change(place, text);
            } else {
                job.locals.set(place, 0, text);
            }
        }

        private void keepPlace() {
            for (int key = 1; key < Tree.KEYS; key++) {
                texts.keep(place[key]);
            }
        }

        /** The value at the place, NONE without one. */
        private int readPlace() {
            noteRead(Tree.KEYS);
            return treeOf(place[0]).get(place);
        }

        /** Notes that the row of so many keys of the place was read, with all below it. */
        private void noteRead(int keys) {
            if (isLooking || job.level == 0 || place[0] < Job.LOCALS) {
                return;
            }
            keepPlace();
            Arrays.fill(readRow, Texts.NONE);
            System.arraycopy(place, 0, readRow, 0, Math.min(Math.max(keys, 1), Tree.KEYS));
            job.transaction.read.set(readRow, 0, 1);
        }

        private void setPlace(int name, int first, int second, int third) {
            place[0] = name;
            place[1] = first;
            place[2] = second;
            place[3] = third;
        }

        /** Does a reference: the place becomes where it is. False if it is an error. */
        private boolean refer(int node, int way) {
            boolean isNaked = code.kind(node) == 'n';
            int first = Texts.NONE;
            int second = Texts.NONE;
            int third = Texts.NONE;
            int count = 0;
            int list = isNaked ? code.a(node) : code.b(node);
            for (int part = list; part != Code.NO_NODE; part = code.b(part)) {
                int text = value(code.a(part));
                if (text == Texts.NONE) {
                    return false;
                }
                count++;
                if (count == 1) {
                    first = text;
                } else if (count == 2) {
                    second = text;
                } else if (count == 3) {
                    third = text;
                }
            }
            if (isNaked && job.remembered[0] == Texts.NONE) {
                return notDone('n');
            }
            boolean hasEmpty = first == Texts.EMPTY && (way != ORDERED || count > 1)
                || second == Texts.EMPTY && (way != ORDERED || count > 2)
                || third == Texts.EMPTY && (way != ORDERED || count > 3);
            int depth = beginPlace(node, isNaked);
            if (hasEmpty || depth + count > Tree.KEYS || way == ORDERED && count == 0) {
                return notDone('s');
            }
            addToPlace(depth, first);
            addToPlace(depth + 1, second);
            addToPlace(depth + 2, third);
            if (way != LOCKED && !isLooking && place[0] >= Job.LOCALS) {
                remember(depth + count - 1);
            }
            return true;
        }

        /** Makes the place what a reference has ahead of its own subscripts, and tells how many keys that is. */
        private int beginPlace(int node, boolean isNaked) {
            if (isNaked) {
                System.arraycopy(job.remembered, 0, place, 0, Tree.KEYS);
                return Tree.depthOf(place);
            }
            int name = code.kind(node) == 'g' ? Job.LOCALS + code.a(node) : code.a(node);
            setPlace(name, Texts.NONE, Texts.NONE, Texts.NONE);
            return 1;
        }

        private void addToPlace(int at, int key) {
            if (key != Texts.NONE && at >= 0 && at < Tree.KEYS) {
                place[at] = key;
            }
        }

        /** Remembers so many keys of the place, nothing for 0. */
        private void remember(int keys) {
            for (int key = 0; key < Tree.KEYS; key++) {
                int text = key < keys ? place[key] : Texts.NONE;
                texts.keep(text);
                job.remembered[key] = text;
            }
        }

        // ---- expressions

        /** The text that an expression is, NONE for an error. Parts are done here, so that few calls stand open. */
        private int value(int node) {
            int a = code.a(node);
            int b = code.b(node);
            int c = code.c(node);
            char kind = code.kind(node);
            switch (kind) {
                case '#': return a;
                case 't': return signs(a, b, c);
                case 'T': return job.truth;
                case 'v': case 'g': case 'n': case 'G': {
                    if (!refer(kind == 'G' ? a : node, PLAIN)) {
                        return Texts.NONE;
                    }
                    int text = readPlace();
                    if (text == Texts.NONE) {
                        return kind == 'G' ? value(b) : Texts.EMPTY;
                    }
                    return text;
                }
                case 'D': case 'O': case 'Q': return asked(kind, a, b);
                case 'I': {
                    if (!refer(a, PLAIN)) {
                        return Texts.NONE;
                    }
                    int name = place[0];
                    int first = place[1];
                    int second = place[2];
                    int third = place[3];
                    int more = value(b);
                    if (more == Texts.NONE) {
                        return Texts.NONE;
                    }
                    setPlace(name, first, second, third);
                    int sum = reckoned((long) texts.numberOf(readPlace()) + texts.numberOf(more));
                    if (sum != Texts.NONE) {
                        change(sum);
                    }
                    return sum;
                }
                case 'S': {
                    int text = value(a);
                    return text == Texts.NONE ? Texts.NONE : value(texts.isTrue(text) ? b : c);
                }
                case 'F': return call(a, b);
                default: {
                    int parts = partsOf(kind);
                    if (parts == 0) {
                        return Texts.EMPTY;
                    }
                    int first = value(a);
                    int second = first == Texts.NONE || parts < 2 ? first : value(b);
                    int third = second == Texts.NONE || parts < 3 ? second : value(c);
                    return third == Texts.NONE ? Texts.NONE : made(kind, first, second, third);
                }
            }
        }

        /** How many expressions are the parts of a kind that is made of these alone. */
        private static int partsOf(char kind) {
            switch (kind) {
                case '!': case 'L': return 1;
                case '+': case '-': case '*': case '/': case '%': case '_': case '=': case '<': case '>':
                case '[': case ']': case '&': case '|': return 2;
                case 'E': case 'P': return 3;
                default: return 0;
            }
        }

        private int signs(int a, int b, int c) {
            texts.begin();
            addSign(a);
            addSign(b);
            addSign(c);
            return texts.made();
        }

        private void addSign(int sign) {
            if (sign != 0) {
                texts.add((char) sign);
            }
        }

        private int asked(char kind, int reference, int way) {
            if (!refer(reference, kind == 'O' ? ORDERED : PLAIN)) {
                return Texts.NONE;
            }
            Tree tree = treeOf(place[0]);
            if (kind == 'D') {
                int own = readPlace() == Texts.NONE ? 0 : 1;
                return tree.hasBelow(place) ? own + 10 : own;
            }
            if (kind == 'O') {
                noteRead(Tree.depthOf(place) - 1);
                return tree.nextKey(place, way == 1);
            }
            noteRead(1);
            return tree.nextRow(place);
        }

        /** What comes of a kind whose parts are done; parts that it has not are not looked at. */
        private int made(char kind, int first, int second, int third) {
            switch (kind) {
                case '!': return truthOf(!texts.isTrue(first));
                case 'L': return texts.lengthOf(first);
                case 'E': return texts.cut(first, texts.numberOf(second), texts.numberOf(third));
                case 'P':
                    return second == Texts.EMPTY ? noText('p') : texts.piece(first, second, texts.numberOf(third));
                case '_': return texts.joined(first, second);
                case '=': return truthOf(first == second);
                case '[': return truthOf(texts.contains(first, second));
                case ']': return truthOf(texts.comesBehind(first, second));
                case '&': return truthOf(texts.isTrue(first) && texts.isTrue(second));
                case '|': return truthOf(texts.isTrue(first) || texts.isTrue(second));
                default: return computed(kind, texts.numberOf(first), texts.numberOf(second));
            }
        }

        private static int truthOf(boolean isSo) {
            return isSo ? 1 : 0;
        }

        private int computed(char kind, long one, long other) {
            switch (kind) {
                case '<': return truthOf(one < other);
                case '>': return truthOf(one > other);
                case '+': return reckoned(one + other);
                case '-': return reckoned(one - other);
                case '*': return reckoned(one * other);
                default: break;
            }
            if (other == 0) {
                return noText('z');
            }
            return reckoned(kind == '/' ? one / other : one % other);
        }

        private int reckoned(long number) {
            return number > -Texts.LIMIT && number < Texts.LIMIT ? (int) number : noText('o');
        }

        // ---- calls

        private int call(int line, int list) {
            int bottom = givenCount;
            int parts = 0;
            for (int part = list; part != Code.NO_NODE; part = code.b(part)) {
                int text = value(code.a(part));
                if (text == Texts.NONE) {
                    return Texts.NONE;
                }
                if (parts < Job.LOCALS && givenCount < MOST_GIVEN) {
                    given[givenCount] = text;
                    givenCount++;
                    parts++;
                }
            }
            if (!beginLine(line)) {
                return Texts.NONE;
            }
            job.save(ALL_LOCALS);
            for (int i = 0; i < parts; i++) {
                setPlace(i, Texts.NONE, Texts.NONE, Texts.NONE);
                change(given[bottom + i]);
            }
            givenCount = bottom;
            return outcome(job.depth - 1);
        }

        /** What the call whose frame is at the bottom gives. */
        private int outcome(int bottom) {
            Frame frame = job.frames[bottom];
            int outerBottom = callBottom;
            if (calls == 0) {
                callSteps = 0;
            }
            calls++;
            callBottom = bottom;
            boolean isEnded = isGoneThrough(bottom);
            calls--;
            callBottom = outerBottom;
            if (!isEnded) {
                return Texts.NONE;
            }
            return frame.given == Texts.NONE ? noText('q') : frame.given;
        }

        /** Does a call till its end; false if an error ended it. Steps of calls within it count in it as well. */
        private boolean isGoneThrough(int bottom) {
            job.endFinished(bottom);
            while (job.depth > bottom && callSteps < CALL_STEPS) {
                callSteps++;
                if (!step(bottom)) {
                    return false;
                }
                job.endFinished(bottom);
            }
            if (job.depth == bottom) {
                return true;
            }
            job.endFrames(bottom);
            return notDone('y');
        }
    }
}
