import java.util.ArrayList;
import java.util.Comparator;
import java.util.HashMap;
import java.util.List;
import java.util.Map;
import java.util.NoSuchElementException;
import java.util.TreeMap;
import java.util.TreeSet;

/**
 * The document once more, written as plainly as it can be with the Java library: texts are Strings, trees are sorted
 * maps of rows, all is copied where something is kept. ModelTest compares the class with it.
 */
final class Model {
    /** An error of the language. */
    static final class Err extends RuntimeException {
        private static final long serialVersionUID = 1;
        final char letter;

        Err(char letter) {
            super(null, null, false, false);
            this.letter = letter;
        }
    }

    static final class Node {
        char kind;
        int a;
        int b;
        int c;
        int depth;
        boolean changing;
    }

    static final class Frame {
        int next = -1;
        int trap = -1;
        boolean looping;
        int loopNode;
        int loopStep;
        int loopLast;
        boolean loopFresh;
        String given;
        Map<Integer, TreeMap<List<String>, String>> saved = new HashMap<>();

        Frame copy() {
            Frame f = new Frame();
            f.next = next;
            f.trap = trap;
            f.looping = looping;
            f.loopNode = loopNode;
            f.loopStep = loopStep;
            f.loopLast = loopLast;
            f.loopFresh = loopFresh;
            f.given = given;
            for (Map.Entry<Integer, TreeMap<List<String>, String>> e : saved.entrySet()) {
                f.saved.put(e.getKey(), new TreeMap<>(e.getValue()));
            }
            return f;
        }
    }

    static final class Change {
        final int global;
        final List<String> row;
        final String value;

        Change(int global, List<String> row, String value) {
            this.global = global;
            this.row = row;
            this.value = value;
        }
    }

    static final class Ref {
        boolean global;
        int name;
        List<String> row;
    }

    static final class MJob {
        char state = 'r';
        char error = 0;
        int truth;
        int steps;
        int restarts;
        int level;
        StringBuilder out = new StringBuilder();
        List<TreeMap<List<String>, String>> locals = trees(8);
        List<Frame> frames = new ArrayList<>();
        int nakedGlobal = -1;
        List<String> nakedRow = new ArrayList<>();
        List<Ref> held = new ArrayList<>();
        List<Ref> wanted = new ArrayList<>();
        boolean counted;
        int left;
        // the transaction
        List<TreeMap<List<String>, String>> start;
        List<TreeMap<List<String>, String>> seen;
        List<Ref> reads;
        List<Change> changes;
        int fails;
        List<TreeMap<List<String>, String>> oldLocals;
        List<Frame> oldFrames;
        int oldTruth;
        int oldNakedGlobal;
        List<String> oldNakedRow;
    }

    static boolean isNumber(String s) {
        return s.matches("0|-?[1-9][0-9]{0,8}");
    }

    static int compareSubs(String x, String y) {
        boolean nx = isNumber(x);
        boolean ny = isNumber(y);
        if (nx && ny) {
            return Integer.compare(Integer.parseInt(x), Integer.parseInt(y));
        }
        if (nx != ny) {
            return nx ? -1 : 1;
        }
        return x.compareTo(y);
    }

    static final Comparator<List<String>> ROWS = (x, y) -> {
        for (int i = 0; i < x.size() && i < y.size(); i++) {
            int c = compareSubs(x.get(i), y.get(i));
            if (c != 0) {
                return c;
            }
        }
        return Integer.compare(x.size(), y.size());
    };

    static List<TreeMap<List<String>, String>> trees(int n) {
        List<TreeMap<List<String>, String>> list = new ArrayList<>();
        for (int i = 0; i < n; i++) {
            list.add(new TreeMap<>(ROWS));
        }
        return list;
    }

    static List<TreeMap<List<String>, String>> copy(List<TreeMap<List<String>, String>> trees) {
        List<TreeMap<List<String>, String>> list = new ArrayList<>();
        for (TreeMap<List<String>, String> t : trees) {
            list.add(new TreeMap<>(t));
        }
        return list;
    }

    static boolean startsWith(List<String> row, List<String> head) {
        return row.size() >= head.size() && row.subList(0, head.size()).equals(head);
    }

    static TreeMap<List<String>, String> below(TreeMap<List<String>, String> tree, List<String> row) {
        TreeMap<List<String>, String> found = new TreeMap<>(ROWS);
        for (Map.Entry<List<String>, String> e : tree.entrySet()) {
            if (startsWith(e.getKey(), row)) {
                found.put(e.getKey(), e.getValue());
            }
        }
        return found;
    }

    static void kill(TreeMap<List<String>, String> tree, List<String> row) {
        for (List<String> key : new ArrayList<>(below(tree, row).keySet())) {
            tree.remove(key);
        }
    }

    static String cutTo40(String s) {
        return s.length() > 40 ? s.substring(0, 40) : s;
    }

    static int number(String s) {
        int i = 0;
        boolean minus = s.startsWith("-");
        if (minus) {
            i = 1;
        }
        StringBuilder digits = new StringBuilder();
        while (i < s.length() && Character.isDigit(s.charAt(i)) && digits.length() < 9) {
            digits.append(s.charAt(i++));
        }
        if (digits.length() == 0) {
            return 0;
        }
        int n = Integer.parseInt(digits.toString());
        return minus ? -n : n;
    }

    static boolean isTrue(String s) {
        return number(s) != 0;
    }

    static String reckon(long n) {
        if (Math.abs(n) > 999999999L) {
            throw new Err('o');
        }
        return Long.toString(n);
    }

    final List<Node> nodes = new ArrayList<>();
    final int[] lines = new int[20];
    final List<MJob> jobs = new ArrayList<>();
    List<TreeMap<List<String>, String>> now = trees(4);
    final List<Change> log = new ArrayList<>();
    int flushed;
    int imaged;
    int followed;
    String kept = "";
    // while something is done
    MJob job;
    boolean looking;
    int calls;
    int callSteps;
    int bottom;
    char lookFailure;

    Model() {
        java.util.Arrays.fill(lines, -1);
    }

    // ---- code

    boolean isNode(int n) {
        return n >= 0 && n < nodes.size();
    }

    boolean isCommand(int n) {
        return isNode(n) && "skmiecdfzqworhluBCR".indexOf(nodes.get(n).kind) >= 0;
    }

    boolean isList(int n) {
        return isNode(n) && nodes.get(n).kind == ',';
    }

    boolean isExpression(int n) {
        return isNode(n) && !isList(n) && !isCommand(n);
    }

    boolean isReference(int n) {
        return isNode(n) && "vgn".indexOf(nodes.get(n).kind) >= 0;
    }

    List<Integer> partsOf(int list) {
        List<Integer> parts = new ArrayList<>();
        for (int n = list; n != -1; n = nodes.get(n).b) {
            parts.add(nodes.get(n).a);
        }
        return parts;
    }

    boolean isExpressions(int n) {
        return isList(n) && isExpression(nodes.get(n).a);
    }

    static boolean sign(int x) {
        return x == 0 || x >= 32 && x <= 126;
    }

    static boolean isLine(int x) {
        return x >= 0 && x < 20;
    }

    boolean fits(char kind, int a, int b, int c) {
        boolean subs = b == -1 || isExpressions(b);
        switch (kind) {
            case '#': return a >= -999999 && a <= 999999;
            case 't': return sign(a) && sign(b) && sign(c);
            case ',':
                if (isExpression(a)) {
                    return b == -1 || isExpressions(b);
                }
                return isCommand(a) && (b == -1 || isList(b) && isCommand(nodes.get(b).a));
            case 'v': return a >= 0 && a <= 7 && subs;
            case 'g': return a >= 0 && a <= 3 && subs;
            case 'n': return isExpressions(a);
            case '!': case 'L': case 'i': case 'o': return isExpression(a);
            case 'D': case 'O': case 'Q': case 'k': return isReference(a);
            case 'G': case 'I': case 's': return isReference(a) && isExpression(b);
            case 'E': case 'P': case 'S': return isExpression(a) && isExpression(b) && isExpression(c);
            case 'T': case 'e': case 'z': case 'h': case 'u': case 'B': case 'C': case 'R': return true;
            case 'F': return isLine(a) && subs;
            case 'm': return isReference(a) && isReference(b);
            case 'c': return isExpression(a) && isCommand(b);
            case 'd': return isLine(a);
            case 'f': return a >= 0 && a <= 7 && isExpressions(b) && partsOf(b).size() == 3 && isLine(c);
            case 'q': return a == -1 || isExpression(a);
            case 'w': return a >= 1 && a <= 255;
            case 'r': return a == -1 || isLine(a);
            case 'l':
                if (!isList(a)) {
                    return false;
                }
                for (int part : partsOf(a)) {
                    if (!isReference(part)) {
                        return false;
                    }
                }
                return b == -1 || isExpression(b);
            default:
                return "+-*/%_=<>[]&|".indexOf(kind) >= 0 && isExpression(a) && isExpression(b);
        }
    }

    List<Integer> partNodes(char kind, int a, int b, int c) {
        List<Integer> parts = new ArrayList<>();
        if ("!LioDOQkGIsEPSmcqnl+-*/%_=<>[]&|".indexOf(kind) >= 0 && a >= 0) {
            parts.add(a);
        }
        if ("GIsEPSmcvgFfl+-*/%_=<>[]&|".indexOf(kind) >= 0 && b >= 0) {
            parts.add(b);
        }
        if ("EPS".indexOf(kind) >= 0) {
            parts.add(c);
        }
        return parts;
    }

    int node(char kind, int a, int b, int c) {
        if (!fits(kind, a, b, c)) {
            throw new IllegalArgumentException();
        }
        Node n = new Node();
        n.kind = kind;
        n.a = a;
        n.b = b;
        n.c = c;
        n.depth = 1;
        n.changing = kind == 'I' || kind == 'F';
        if (kind == ',') {
            n.depth = nodes.get(a).depth + 1;
            n.changing = nodes.get(a).changing;
            if (b >= 0) {
                n.depth = Math.max(n.depth, nodes.get(b).depth);
                n.changing |= nodes.get(b).changing;
            }
        }
        for (int p : partNodes(kind, a, b, c)) {
            n.depth = Math.max(n.depth, nodes.get(p).depth + 1);
            n.changing |= nodes.get(p).changing;
        }
        if (nodes.size() >= 120 || n.depth > 12) {
            throw new IllegalStateException();
        }
        nodes.add(n);
        return nodes.size() - 1;
    }

    int line(int line, int node) {
        if (!isLine(line)) {
            throw new IllegalArgumentException();
        }
        if (node != -1 && !(isList(node) && isCommand(nodes.get(node).a))) {
            throw new UnsupportedOperationException();
        }
        int old = lines[line];
        lines[line] = node;
        return old;
    }

    int job(int line) {
        if (!isLine(line)) {
            throw new IllegalArgumentException();
        }
        if (jobs.size() == 3) {
            throw new IllegalStateException();
        }
        job = new MJob();
        jobs.add(job);
        push(lines[line]);
        settle(0);
        return jobs.size() - 1;
    }

    MJob at(int j) {
        if (j < 0 || j >= jobs.size()) {
            throw new IndexOutOfBoundsException();
        }
        return jobs.get(j);
    }

    int run(int j, int steps) {
        job = at(j);
        if (steps < 1 || steps > 200) {
            throw new IllegalArgumentException();
        }
        int made = 0;
        while (made < steps && (job.state == 'r' || job.state == 'w')) {
            made++;
            job.steps++;
            if (job.state == 'w') {
                tryLock();
                settle(0);
            } else {
                step(0);
            }
        }
        return made;
    }

    // ---- frames

    void push(int list) {
        if (job.frames.size() >= 10) {
            throw new Err('f');
        }
        Frame f = new Frame();
        f.next = list;
        job.frames.add(f);
    }

    Frame top() {
        return job.frames.get(job.frames.size() - 1);
    }

    void pop() {
        Frame f = job.frames.remove(job.frames.size() - 1);
        for (Map.Entry<Integer, TreeMap<List<String>, String>> e : f.saved.entrySet()) {
            job.locals.set(e.getKey(), e.getValue());
        }
    }

    void end(char how) {
        while (!job.frames.isEmpty()) {
            pop();
        }
        job.state = how;
        job.held.clear();
        job.level = 0;
    }

    /** Ends what has nothing left, down to some frames that stay. */
    void settle(int stay) {
        if (job.state != 'r') {
            return;
        }
        while (job.frames.size() > stay && top().next == -1 && !top().looping) {
            pop();
        }
        if (job.frames.isEmpty()) {
            end('d');
        }
    }

    /** One step; an error that no frame above those that stay catches is thrown on (or ends the job). */
    void step(int stay) {
        try {
            doStep();
        } catch (Err e) {
            job.error = e.letter;
            boolean past = e.letter == 'y' && calls > 0;
            while (job.frames.size() > stay) {
                if (top().trap >= 0 && !past) {
                    Frame f = top();
                    f.next = lines[f.trap];
                    f.looping = false;
                    f.trap = -1;
                    settle(stay);
                    return;
                }
                pop();
            }
            if (stay == 0) {
                end('e');
                return;
            }
            throw e;
        }
        settle(stay);
    }

    void doStep() {
        Frame f = top();
        if (f.looping) {
            TreeMap<List<String>, String> local = job.locals.get(nodes.get(f.loopNode).a);
            List<String> none = new ArrayList<>();
            if (!f.loopFresh) {
                local.put(none, reckon((long) number(local.getOrDefault(none, "")) + f.loopStep));
            }
            f.loopFresh = false;
            int n = number(local.getOrDefault(none, ""));
            if (f.loopStep >= 0 && n <= f.loopLast || f.loopStep < 0 && n >= f.loopLast) {
                push(lines[nodes.get(f.loopNode).c]);
            } else {
                f.looping = false;
            }
            return;
        }
        int list = f.next;
        f.next = nodes.get(list).b;
        command(nodes.get(list).a);
    }

    void command(int n) {
        Node x = nodes.get(n);
        if (calls > 0 && "hluBCR".indexOf(x.kind) >= 0) {
            throw new Err('x');
        }
        switch (x.kind) {
            case 's': {
                String text = value(x.b);
                give(ref(x.a, ' '), text);
                break;
            }
            case 'k': {
                Ref r = ref(x.a, ' ');
                read(r, r.row);
                give(r, null);
                break;
            }
            case 'm': {
                Ref from = ref(x.b, ' ');
                Ref to = ref(x.a, ' ');
                read(from, from.row);
                for (Map.Entry<List<String>, String> e : below(tree(from), from.row).entrySet()) {
                    List<String> row = new ArrayList<>(to.row);
                    row.addAll(e.getKey().subList(from.row.size(), e.getKey().size()));
                    if (row.size() <= 3) {
                        Ref r = new Ref();
                        r.global = to.global;
                        r.name = to.name;
                        r.row = row;
                        give(r, e.getValue());
                    }
                }
                break;
            }
            case 'i':
                job.truth = isTrue(value(x.a)) ? 1 : 0;
                if (job.truth == 0) {
                    top().next = -1;
                }
                break;
            case 'e':
                if (job.truth == 1) {
                    top().next = -1;
                }
                break;
            case 'c':
                if (isTrue(value(x.a))) {
                    command(x.b);
                }
                break;
            case 'd': push(lines[x.a]); break;
            case 'f': {
                List<Integer> parts = partsOf(x.b);
                int from = number(value(parts.get(0)));
                int step = number(value(parts.get(1)));
                int last = number(value(parts.get(2)));
                Frame f = top();
                f.looping = true;
                f.loopNode = n;
                f.loopStep = step;
                f.loopLast = last;
                f.loopFresh = true;
                job.locals.get(x.a).put(new ArrayList<>(), Integer.toString(from));
                break;
            }
            case 'z': {
                int i = job.frames.size() - 2;
                while (i >= bottom && !job.frames.get(i).looping) {
                    i--;
                }
                if (i < bottom) {
                    throw new Err('l');
                }
                while (job.frames.size() > i + 1) {
                    pop();
                }
                top().looping = false;
                break;
            }
            case 'q': {
                String text = x.a == -1 ? null : value(x.a);
                top().given = text;
                pop();
                break;
            }
            case 'w': saveLocals(x.a); break;
            case 'o': {
                String text = value(x.a);
                for (int i = 0; i < text.length() && job.out.length() < 200; i++) {
                    job.out.append(text.charAt(i));
                }
                break;
            }
            case 'r': top().trap = x.a; break;
            case 'h': end('d'); break;
            default: special(x); break;
        }
    }

    void saveLocals(int bits) {
        for (int i = 0; i < 8; i++) {
            if ((bits & 1 << i) != 0) {
                top().saved.putIfAbsent(i, job.locals.get(i));
                job.locals.set(i, new TreeMap<>(ROWS));
            }
        }
    }

    // ---- locks, transactions

    void special(Node x) {
        switch (x.kind) {
            case 'l': {
                job.wanted.clear();
                for (int part : partsOf(x.a)) {
                    job.wanted.add(ref(part, 'l'));
                }
                job.counted = x.b != -1;
                if (job.counted) {
                    job.left = number(value(x.b));
                    if (job.left <= 0) {
                        job.truth = 0;
                        return;
                    }
                }
                tryLock();
                break;
            }
            case 'u': job.held.clear(); break;
            case 'B':
                if (job.level == 0) {
                    job.fails = 0;
                    job.oldLocals = copy(job.locals);
                    job.oldFrames = new ArrayList<>();
                    for (Frame f : job.frames) {
                        job.oldFrames.add(f.copy());
                    }
                    job.oldTruth = job.truth;
                    job.oldNakedGlobal = job.nakedGlobal;
                    job.oldNakedRow = new ArrayList<>(job.nakedRow);
                    snapshot();
                }
                job.level++;
                break;
            case 'R':
                if (job.level == 0) {
                    throw new Err('t');
                }
                job.level = 0;
                break;
            default: commit(); break;
        }
    }

    void snapshot() {
        job.start = copy(now);
        job.seen = copy(now);
        job.reads = new ArrayList<>();
        job.changes = new ArrayList<>();
    }

    void commit() {
        if (job.level == 0) {
            throw new Err('t');
        }
        if (job.level > 1) {
            job.level--;
            return;
        }
        boolean fine = true;
        for (Ref r : job.reads) {
            fine &= below(job.start.get(r.name), r.row).equals(below(now.get(r.name), r.row));
        }
        if (fine) {
            job.level = 0;
            for (Change c : job.changes) {
                write(c);
            }
        } else if (job.fails == 3) {
            job.level = 0;
            throw new Err('t');
        } else {
            job.fails++;
            job.restarts++;
            job.locals = copy(job.oldLocals);
            job.frames = new ArrayList<>();
            for (Frame f : job.oldFrames) {
                job.frames.add(f.copy());
            }
            job.truth = job.oldTruth;
            job.nakedGlobal = job.oldNakedGlobal;
            job.nakedRow = new ArrayList<>(job.oldNakedRow);
            snapshot();
        }
    }

    static boolean conflict(Ref x, Ref y) {
        return x.global == y.global && x.name == y.name && (startsWith(x.row, y.row) || startsWith(y.row, x.row));
    }

    int hinderers(MJob j) {
        int bits = 0;
        for (int i = 0; i < jobs.size(); i++) {
            if (jobs.get(i) != j) {
                for (Ref w : j.wanted) {
                    for (Ref h : jobs.get(i).held) {
                        if (conflict(w, h)) {
                            bits |= 1 << i;
                        }
                    }
                }
            }
        }
        return bits;
    }

    void tryLock() {
        if (hinderers(job) == 0) {
            job.held.addAll(job.wanted);
            if (job.counted) {
                job.truth = 1;
            }
            job.state = 'r';
        } else if (job.counted && --job.left == 0) {
            job.truth = 0;
            job.state = 'r';
        } else {
            job.state = 'w';
        }
    }

    // ---- references

    TreeMap<List<String>, String> tree(Ref r) {
        if (!r.global) {
            return job.locals.get(r.name);
        }
        return (job.level > 0 ? job.seen : now).get(r.name);
    }

    static void apply(Change c, List<TreeMap<List<String>, String>> trees) {
        if (c.value == null) {
            kill(trees.get(c.global), c.row);
        } else {
            trees.get(c.global).put(c.row, c.value);
        }
    }

    void write(Change c) {
        log.add(c);
        apply(c, now);
    }

    void give(Ref r, String value) {
        if (!r.global) {
            if (value == null) {
                kill(tree(r), r.row);
            } else {
                tree(r).put(r.row, value);
            }
            return;
        }
        Change c = new Change(r.name, r.row, value);
        if (job.level > 0) {
            job.changes.add(c);
            apply(c, job.seen);
        } else {
            write(c);
        }
    }

    void read(Ref r, List<String> row) {
        if (r.global && job.level > 0 && !looking) {
            Ref x = new Ref();
            x.global = true;
            x.name = r.name;
            x.row = new ArrayList<>(row);
            job.reads.add(x);
        }
    }

    Ref ref(int n, char way) {
        Node x = nodes.get(n);
        List<String> own = new ArrayList<>();
        for (int part : partsOf(x.kind == 'n' ? x.a : x.b)) {
            own.add(value(part));
        }
        Ref r = new Ref();
        r.row = new ArrayList<>();
        r.global = x.kind != 'v';
        r.name = x.a;
        if (x.kind == 'n') {
            if (job.nakedGlobal < 0) {
                throw new Err('n');
            }
            r.name = job.nakedGlobal;
            r.row.addAll(job.nakedRow);
        }
        r.row.addAll(own);
        if (r.row.size() > 3 || way == 'O' && r.row.isEmpty()) {
            throw new Err('s');
        }
        for (int i = 0; i < r.row.size(); i++) {
            if (r.row.get(i).isEmpty() && !(way == 'O' && i == r.row.size() - 1)) {
                throw new Err('s');
            }
        }
        if (r.global && way != 'l' && !looking) {
            if (r.row.isEmpty()) {
                job.nakedGlobal = -1;
                job.nakedRow = new ArrayList<>();
            } else {
                job.nakedGlobal = r.name;
                job.nakedRow = new ArrayList<>(r.row.subList(0, r.row.size() - 1));
            }
        }
        return r;
    }

    // ---- expressions

    String value(int n) {
        Node x = nodes.get(n);
        switch (x.kind) {
            case '#': return Integer.toString(x.a);
            case 't': {
                StringBuilder s = new StringBuilder();
                for (int sign : new int[] {x.a, x.b, x.c}) {
                    if (sign != 0) {
                        s.append((char) sign);
                    }
                }
                return s.toString();
            }
            case 'v': case 'g': case 'n': {
                Ref r = ref(n, ' ');
                read(r, r.row);
                return tree(r).getOrDefault(r.row, "");
            }
            case 'D': {
                Ref r = ref(x.a, ' ');
                read(r, r.row);
                int own = tree(r).containsKey(r.row) ? 1 : 0;
                int size = below(tree(r), r.row).size();
                return Integer.toString(own + (size > own ? 10 : 0));
            }
            case 'O': return order(ref(x.a, 'O'), x.b == 1);
            case 'Q': {
                Ref r = ref(x.a, ' ');
                read(r, new ArrayList<>());
                List<String> next = tree(r).higherKey(r.row);
                return next == null ? "" : cutTo40(String.join(",", next));
            }
            case 'G': {
                Ref r = ref(x.a, ' ');
                read(r, r.row);
                String text = tree(r).get(r.row);
                return text != null ? text : value(x.b);
            }
            case 'I': {
                Ref r = ref(x.a, ' ');
                int more = number(value(x.b));
                read(r, r.row);
                String sum = reckon((long) number(tree(r).getOrDefault(r.row, "")) + more);
                give(r, sum);
                return sum;
            }
            case 'L': return Integer.toString(value(x.a).length());
            case '!': return isTrue(value(x.a)) ? "0" : "1";
            case 'T': return Integer.toString(job.truth);
            case 'S': return isTrue(value(x.a)) ? value(x.b) : value(x.c);
            case 'E': {
                String text = value(x.a);
                int from = number(value(x.b));
                int to = number(value(x.c));
                StringBuilder s = new StringBuilder();
                for (int i = 1; i <= text.length(); i++) {
                    if (i >= from && i <= to) {
                        s.append(text.charAt(i - 1));
                    }
                }
                return s.toString();
            }
            case 'P': {
                String text = value(x.a);
                String by = value(x.b);
                int which = number(value(x.c));
                if (by.isEmpty()) {
                    throw new Err('p');
                }
                String[] pieces = text.split(java.util.regex.Pattern.quote(by), -1);
                return which >= 1 && which <= pieces.length ? pieces[which - 1] : "";
            }
            case 'F': return call(x);
            default: return two(x.kind, value(x.a), value(x.b));
        }
    }

    String order(Ref r, boolean back) {
        List<String> head = r.row.subList(0, r.row.size() - 1);
        String own = r.row.get(r.row.size() - 1);
        read(r, head);
        TreeSet<String> subs = new TreeSet<>(Model::compareSubs);
        for (List<String> row : tree(r).keySet()) {
            if (row.size() > head.size() && startsWith(row, head)) {
                subs.add(row.get(head.size()));
            }
        }
        if (subs.isEmpty()) {
            return "";
        }
        String found;
        if (own.isEmpty()) {
            found = back ? subs.last() : subs.first();
        } else {
            found = back ? subs.lower(own) : subs.higher(own);
        }
        return found == null ? "" : found;
    }

    static String two(char kind, String x, String y) {
        long a = number(x);
        long b = number(y);
        switch (kind) {
            case '+': return reckon(a + b);
            case '-': return reckon(a - b);
            case '*': return reckon(a * b);
            case '/': case '%':
                if (b == 0) {
                    throw new Err('z');
                }
                return reckon(kind == '/' ? a / b : a - b * (a / b));
            case '_': return cutTo40(x + y);
            case '=': return x.equals(y) ? "1" : "0";
            case '<': return a < b ? "1" : "0";
            case '>': return a > b ? "1" : "0";
            case '[': return x.contains(y) ? "1" : "0";
            case ']': return x.compareTo(y) > 0 ? "1" : "0";
            case '&': return a != 0 && b != 0 ? "1" : "0";
            default: return a != 0 || b != 0 ? "1" : "0";
        }
    }

    String call(Node x) {
        List<String> given = new ArrayList<>();
        for (int part : partsOf(x.b)) {
            given.add(value(part));
        }
        int stay = job.frames.size();
        push(lines[x.a]);
        Frame frame = top();
        saveLocals(255);
        for (int i = 0; i < given.size() && i < 8; i++) {
            job.locals.get(i).put(new ArrayList<>(), given.get(i));
        }
        if (calls == 0) {
            callSteps = 0;
        }
        int outerBottom = bottom;
        bottom = stay;
        calls++;
        try {
            settle(stay);
            while (job.frames.size() > stay) {
                if (callSteps == 200) {
                    while (job.frames.size() > stay) {
                        pop();
                    }
                    throw new Err('y');
                }
                callSteps++;
                step(stay);
            }
        } finally {
            calls--;
            bottom = outerBottom;
        }
        if (frame.given == null) {
            throw new Err('q');
        }
        return frame.given;
    }

    // ---- what is asked

    String seen(int j, int node) {
        at(j);
        if (!isExpression(node) || nodes.get(node).changing) {
            throw new IllegalArgumentException();
        }
        job = jobs.get(j);
        looking = true;
        try {
            return value(node);
        } catch (Err e) {
            lookFailure = e.letter;
            return null;
        } finally {
            looking = false;
        }
    }

    char state(int j) {
        return at(j).state;
    }

    char error(int j) {
        if (at(j).error == 0) {
            throw new NoSuchElementException();
        }
        return at(j).error;
    }

    int truth(int j) {
        return at(j).truth;
    }

    int depth(int j) {
        return at(j).frames.size();
    }

    int steps(int j) {
        return at(j).steps;
    }

    int output(int j) {
        return at(j).out.length();
    }

    char outputAt(int j, int index) {
        StringBuilder out = at(j).out;
        if (index < 0 || index >= out.length()) {
            throw new NoSuchElementException();
        }
        return out.charAt(index);
    }

    int look(int j, int node) {
        String text = seen(j, node);
        if (text == null) {
            throw new UnsupportedOperationException();
        }
        kept = text;
        return text.length();
    }

    char lookAt(int index) {
        if (index < 0 || index >= kept.length()) {
            throw new NoSuchElementException();
        }
        return kept.charAt(index);
    }

    int lookNumber() {
        return number(kept);
    }

    char lookError(int j, int node) {
        return seen(j, node) == null ? lookFailure : '-';
    }

    int nodes(int global) {
        if (global < 0 || global > 3) {
            throw new IllegalArgumentException();
        }
        return now.get(global).size();
    }

    int locks(int j) {
        return at(j).held.size();
    }

    int waitBits(int j) {
        return jobs.get(j).state == 'w' ? hinderers(jobs.get(j)) : 0;
    }

    boolean isDeadlocked(int j) {
        at(j);
        TreeSet<Integer> met = new TreeSet<>();
        List<Integer> open = new ArrayList<>();
        open.add(j);
        while (!open.isEmpty()) {
            int bits = waitBits(open.remove(0));
            for (int i = 0; i < jobs.size(); i++) {
                if ((bits & 1 << i) != 0 && met.add(i)) {
                    open.add(i);
                }
            }
        }
        return met.contains(j);
    }

    int waitsFor(int j) {
        if (at(j).state != 'w') {
            throw new UnsupportedOperationException();
        }
        return waitBits(j);
    }

    int level(int j) {
        return at(j).level;
    }

    int restarts(int j) {
        return at(j).restarts;
    }

    // ---- the store

    int written() {
        return log.size() - flushed;
    }

    int flush() {
        flushed = log.size();
        return flushed;
    }

    int journal() {
        return flushed;
    }

    int image() {
        imaged = flushed;
        return imaged;
    }

    List<TreeMap<List<String>, String>> made(int changes) {
        List<TreeMap<List<String>, String>> trees = trees(4);
        for (int i = 0; i < changes; i++) {
            apply(log.get(i), trees);
        }
        return trees;
    }

    int crash() {
        int lost = written();
        while (log.size() > flushed) {
            log.remove(log.size() - 1);
        }
        now = made(flushed);
        for (MJob j : jobs) {
            if (j.state == 'r' || j.state == 'w') {
                job = j;
                end('x');
            }
        }
        return lost;
    }

    int follow(int changes) {
        if (changes < 1 || changes > 99) {
            throw new IllegalArgumentException();
        }
        followed = Math.min(flushed, followed + changes);
        return followed;
    }

    int lag() {
        return flushed - followed;
    }

    boolean isSame() {
        return made(followed).equals(now);
    }

    long checksum() {
        long sum = 7;
        for (TreeMap<List<String>, String> tree : now) {
            for (Map.Entry<List<String>, String> e : tree.entrySet()) {
                sum = sum * 31 + e.getKey().size();
                for (char c : (String.join("", e.getKey()) + e.getValue()).toCharArray()) {
                    sum = sum * 31 + c;
                }
            }
        }
        return sum;
    }

    float doneShare() {
        if (jobs.isEmpty()) {
            throw new ArithmeticException();
        }
        int done = 0;
        for (MJob j : jobs) {
            done += j.state == 'd' ? 1 : 0;
        }
        return (float) done / jobs.size();
    }

    double meanSteps() {
        if (jobs.isEmpty()) {
            throw new ArithmeticException();
        }
        int sum = 0;
        for (MJob j : jobs) {
            sum += j.steps;
        }
        return (double) sum / jobs.size();
    }

    boolean isSound() {
        return made(log.size()).equals(now);
    }
}
