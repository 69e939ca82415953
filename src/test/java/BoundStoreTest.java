import java.util.Arrays;

/**
 * The boundaries in the sentences of 'Terms' on locks, transactions and the store, each at the boundary and on both
 * sides of it. The sentence stands ahead of its test.
 */
public final class BoundStoreTest {
    private BoundStoreTest() {
    }

    public static void main(String[] args) {
        leadingNames();
        ownLocks();
        triesMade();
        triesUntilFree();
        withoutTries();
        allAtOnce();
        lockReferences();
        lockReads();
        givenUp();
        endsGiveUp();
        ringsOf();
        waitingFor();
        noneBegun();
        innermost();
        asItBegan();
        belowWhatIsRead();
        aroundOrder();
        aroundQuery();
        valuesThen();
        threeTimes();
        fourthIsError();
        timesAnew();
        asItWas();
        whatStays();
        rolledBack();
        gone();
        notWithinCalls();
        readWithinCalls();
        errorsWithin();
        changesWritten();
        changesOfMerges();
        flushed();
        imaged();
        crashed();
        lostOnly();
        followed();
        sameValues();
        sameNames();
        tenFramesAgain();
        loopsAgain();
        framesAgain();
        framesAbove();
        textsOfLocks();
        textsRead();
        Check.finish("BoundStoreTest");
    }

    private static void due(String what, Object got, Object due) {
        Check.same(what, got, due);
    }

    private static int[] row(Program p, int... numbers) {
        int[] row = new int[numbers.length];
        for (int i = 0; i < row.length; i++) {
            row[i] = p.number(numbers[i]);
        }
        return row;
    }

    /** ".. another job has locked the same name with the same subscripts, or with fewer or more of these from the first on." */
    private static void leadingNames() {
        int[][] rows = {{}, {1}, {2}, {1, 1}, {1, 2}, {2, 1}, {1, 1, 1}, {1, 1, 2}, {1, 2, 1}};
        for (int[] held : rows) {
            for (int[] wanted : rows) {
                int least = Math.min(held.length, wanted.length);
                boolean isFree = !Arrays.equals(Arrays.copyOf(held, least), Arrays.copyOf(wanted, least));
                String what = Arrays.toString(held) + " and " + Arrays.toString(wanted);
                due("locals " + what, isFree(held, wanted, false, 0), isFree);
                due("globals " + what, isFree(held, wanted, true, 0), isFree);
                due("another name " + what, isFree(held, wanted, true, 1), true);
            }
        }
        due("a local and a global", isFreeOf(false, true), true);
        due("a global and a local", isFreeOf(true, false), true);
        due("locals of two jobs", isFreeOf(false, false), false);
    }

    private static boolean isFree(int[] held, int[] wanted, boolean isGlobal, int more) {
        Program p = new Program();
        int first = isGlobal ? p.global(1, row(p, held)) : p.local(1, row(p, held));
        int second = isGlobal ? p.global(1 + more, row(p, wanted)) : p.local(1 + more, row(p, wanted));
        return isSecondLocked(p, first, second);
    }

    private static boolean isFreeOf(boolean isFirstGlobal, boolean isSecondGlobal) {
        Program p = new Program();
        return isSecondLocked(p, isFirstGlobal ? p.global(1) : p.local(1), isSecondGlobal ? p.global(1) : p.local(1));
    }

    private static boolean isSecondLocked(Program p, int first, int second) {
        p.ran(1, p.lock(-1, first), p.none('h'));
        int job = p.ran(1, p.lock(-1, second), p.none('h'));
        due("sound", p.x.isSound(), true);
        due("waits or has it", p.x.state(job), p.x.locks(job) == 1 ? 'r' : 'w');
        return p.x.locks(job) == 1;
    }

    /** "'l' locks .. besides those that it has"; "each as often as it was in the list" */
    private static void ownLocks() {
        Program p = new Program();
        int a = p.global(0);
        int below = p.global(0, p.number(1));
        int job = p.job(p.lock(-1, a), p.lock(-1, a), p.lock(-1, below, a, below), p.lock(p.number(1), a), p.none('u'),
            p.lock(-1, below), p.none('h'));
        int[] due = {1, 2, 5, 6, 0, 1};
        for (int i = 0; i < due.length; i++) {
            p.x.run(job, 1);
            due("names behind command " + i, p.x.locks(job), due[i]);
            due("its own are no hindrance", p.x.state(job), 'r');
        }
        due("none behind its end", p.x.run(job, 9) + p.x.locks(job), 1);
    }

    /** "The command is the first try, if any is to be made; then .. each step is a try; behind the last one the truth is 0" */
    private static void triesMade() {
        String[] tries = {"-1", "0", "", "a", "1", "2", "3", "3x", "5"};
        int[] counts = {0, 0, 0, 0, 1, 2, 3, 3, 5};
        for (int i = 0; i < tries.length; i++) {
            Program p = new Program();
            int name = p.local(0);
            p.ran(1, p.lock(-1, name), p.none('h'));
            int job = p.ran(2, p.lock(-1, p.local(1)), p.one('i', p.number(1)), p.lock(p.text(tries[i]), name),
                p.show(p.x.node('T', 0, 0, 0)));
            for (int made = 1; made <= Math.max(counts[i], 1); made++) {
                due("a step", p.x.run(job, 1), 1);
                due("state behind try " + made + " of " + tries[i], p.x.state(job), made < counts[i] ? 'w' : 'r');
                due("truth behind try " + made + " of " + tries[i], p.x.truth(job), made < counts[i] ? 1 : 0);
                due("those that it had", p.x.locks(job), 1);
            }
            due("goes on", p.x.run(job, 9), 1);
            due("with the truth 0", p.shown(job), "0");
            due("steps", p.x.steps(job), 3 + Math.max(counts[i], 1));
        }
        for (int i = 0; i < tries.length; i++) {
            Program p = new Program();
            int job = p.ran(1, p.lock(p.text(tries[i]), p.local(0)), p.none('h'));
            due("a free name by " + tries[i], p.x.locks(job), counts[i] > 0 ? 1 : 0);
            due("truth of it", p.x.truth(job), counts[i] > 0 ? 1 : 0);
        }
    }

    /** "as it is done with b told, the truth is 1" */
    private static void triesUntilFree() {
        for (int free = 1; free <= 4; free++) {
            Program p = new Program();
            int name = p.local(0);
            int first = p.ran(1, p.lock(-1, name), p.none('u'), p.none('h'));
            int job = p.job(p.lock(p.number(3), name), p.show(p.x.node('T', 0, 0, 0)));
            for (int made = 1; made <= 3; made++) {
                if (made == free) {
                    p.x.run(first, 1);
                }
                p.x.run(job, 1);
                boolean isWaiting = made < free && made < 3;
                due("state behind try " + made + ", free ahead of " + free, p.x.state(job), isWaiting ? 'w' : 'r');
                due("truth", p.x.truth(job), made == free ? 1 : 0);
                due("locked", p.x.locks(job), made == free ? 1 : 0);
                if (!isWaiting) {
                    break;
                }
            }
            p.x.run(job, 1);
            due("goes on", p.shown(job), free <= 3 ? "1" : "0");
        }
    }

    /** "or -1 for as many as need be"; the truth is as it was. */
    private static void withoutTries() {
        for (int truth = 0; truth <= 1; truth++) {
            Program p = new Program();
            int name = p.local(0);
            int first = p.ran(1, p.lock(-1, name), p.none('u'), p.none('h'));
            int job = p.ran(1, p.one('i', p.number(truth)), p.none('h'));
            int other = truth == 1 ? p.ran(2, p.one('i', p.number(1)), p.lock(-1, name), p.none('h'))
                : p.ran(1, p.lock(-1, name), p.none('h'));
            for (int call = 0; call < 3; call++) {
                due("tries", p.x.run(other, 200), 200);
                due("waits", p.x.state(other), 'w');
            }
            due("steps", p.x.steps(other), 601 + truth);
            p.x.run(first, 1);
            due("waits until it tries", p.x.state(other), 'w');
            due("but for none", p.x.waitsFor(other), 0);
            p.x.run(other, 1);
            due("has it", p.x.state(other), 'r');
            due("truth", p.x.truth(other), truth);
            due("one of another job", p.x.truth(job), truth);
        }
    }

    /** "locks the references of the list a for the job, all at once" */
    private static void allAtOnce() {
        for (int which = 0; which < 3; which++) {
            Program p = new Program();
            int[] names = {p.local(0), p.global(0), p.global(1, p.number(1))};
            p.ran(1, p.lock(-1, names[which]), p.none('h'));
            int job = p.ran(1, p.lock(-1, names), p.none('h'));
            due("none of them", p.x.locks(job), 0);
            due("waits", p.x.state(job), 'w');
            int third = p.ran(1, p.lock(-1, names[(which + 1) % 3]), p.none('h'));
            due("the others are free", p.x.locks(third), 1);
            due("for both", p.x.waitsFor(job), 5);
        }
    }

    /** "References in a list of locks remember nothing, but those in their subscripts do" */
    private static void lockReferences() {
        Program p = new Program();
        int one = p.number(1);
        int two = p.number(2);
        int job = p.ran(4, p.show(p.global(0, one, one)), p.lock(-1, p.global(1, two, two), p.global(2)),
            p.set(p.naked(two), p.text("a")), p.lock(-1, p.naked(two, two), p.local(3)), p.set(p.naked(p.number(3)),
            p.text("b")), p.none('h'));
        due("as remembered ahead", p.looked(job, p.global(0, one, two)), "a");
        due("two and two", p.x.locks(job), 4);
        p.x.run(job, 1);
        due("a naked one remembers nothing", p.looked(job, p.global(0, one, p.number(3))), "b");
        int other = p.ran(1, p.lock(p.number(1), p.global(0, one, two, two)), p.none('h'));
        due("is locked with what is remembered", p.x.truth(other), 0);
        Program q = new Program();
        int first = q.number(1);
        int inner = q.two('_', q.text("x"), q.global(3, first, first));
        int third = q.ran(2, q.lock(-1, q.global(0, inner)), q.set(q.naked(q.number(9)), first), q.none('h'));
        due("a subscript remembers", q.looked(third, q.global(3, first, q.number(9))), "1");
        String[] errors = {"s", "s", "n", "z", "z"};
        for (int i = 0; i < errors.length; i++) {
            Program r = new Program();
            int five = r.number(5);
            int empty = r.text("");
            int zero = r.two('/', five, empty);
            int[] wrong = {r.local(0, empty), r.global(0, five, five, five, five), r.naked(empty), r.local(0, zero), r.local(1)};
            int last = r.ran(2, r.lock(-1, r.local(7)), r.lock(i == 4 ? zero : five, r.local(2), wrong[i]), r.none('h'));
            due("an error in a lock", String.valueOf(r.x.error(last)), errors[i]);
            due("ends the job", r.x.state(last), 'e');
            Program s = new Program();
            int six = s.number(6);
            int none = s.text("");
            int over = s.two('/', six, none);
            int[] bad = {s.local(0, none), s.global(0, six, six, six, six), s.naked(none), s.local(0, over), s.local(1)};
            int kept = s.ran(3, s.trap(0), s.lock(-1, s.local(7)), s.lock(i == 4 ? over : six, s.local(2), bad[i]), s.none('h'));
            due("by a trap it has what it had", s.x.locks(kept), s.x.state(kept) == 'd' ? 0 : 1);
        }
        Program t = new Program();
        t.line(0, t.show(t.text("t")), t.show(t.text("t")));
        int trapped = t.ran(3, t.trap(0), t.lock(-1, t.local(7)), t.lock(-1, t.local(2), t.local(0, t.text(""))), t.none('h'));
        due("an error locks nothing more", t.x.locks(trapped), 1);
    }

    /** "and count as read" */
    private static void lockReads() {
        for (int way = 0; way < 4; way++) {
            Program p = new Program();
            int one = p.number(1);
            int read = p.global(1, one);
            int subscript = p.two('_', p.text("x"), read);
            int[] locks = {p.lock(-1, p.global(0, subscript)), p.lock(-1, p.local(0, subscript)), p.lock(-1, read),
                p.lock(p.two('+', read, one), p.local(0))};
            int job = p.ran(2, p.none('B'), locks[way], p.none('C'), p.none('h'));
            p.ran(1, p.set(read, one));
            p.x.run(job, 1);
            due("read by a lock, way " + way, p.x.restarts(job), way == 2 ? 0 : 1);
        }
    }

    /** "'u' gives all locks of the job up." */
    private static void givenUp() {
        Program p = new Program();
        int name = p.local(0);
        int job = p.ran(3, p.none('u'), p.lock(-1, name, p.global(1)), p.lock(-1, p.global(2)), p.none('u'), p.none('h'));
        int other = p.ran(2, p.lock(-1, p.local(5)), p.lock(-1, name), p.none('h'));
        due("three", p.x.locks(job), 3);
        p.x.run(job, 1);
        due("none", p.x.locks(job), 0);
        due("those of another job stay", p.x.locks(other), 1);
        p.x.run(other, 1);
        due("it gets it", p.x.locks(other), 2);
    }

    /** "A job that ends gives all up." */
    private static void endsGiveUp() {
        for (int way = 0; way < 6; way++) {
            Program p = new Program();
            int one = p.number(1);
            int lock = p.lock(-1, p.local(0), p.global(0));
            int[] ends = {p.none('h'), p.one('q', -1), p.show(p.two('/', one, p.number(0))), p.show(one), p.none('C'),
                p.show(p.text("never"))};
            int job = p.ran(1, lock, ends[way]);
            int other = p.ran(1, p.lock(-1, p.local(0)), p.none('h'));
            due("waits", p.x.waitsFor(other), 1);
            if (way == 5) {
                p.x.crash();
                due("both ended", "" + p.x.state(job) + p.x.state(other), "xx");
                other = p.ran(1, p.lock(-1, p.local(0)), p.none('h'));
            } else {
                p.x.run(job, 1);
                p.x.run(other, 1);
            }
            due("given up by end " + way, p.x.locks(job), 0);
            due("another one has it", p.x.locks(other), 1);
            due("sound", p.x.isSound(), true);
        }
    }

    /** "Jobs are deadlocked if they wait for one another in a ring." */
    private static void ringsOf() {
        for (int size = 1; size <= 3; size++) {
            Program p = new Program();
            int[] names = {p.local(0), p.local(1), p.local(2)};
            for (int i = 0; i < 3; i++) {
                p.ran(1, p.lock(-1, names[i]), p.lock(p.number(3), names[i < size ? (i + 1) % size : 0], p.local(3, p.number(i))),
                    p.none('u'), p.none('h'));
            }
            for (int i = 0; i < 3; i++) {
                for (int j = 0; j < 3; j++) {
                    due("no ring of " + size + " yet", p.x.isDeadlocked(j), size == 2 && i > 1 && j < 2);
                }
                p.x.run(i, 1);
            }
            for (int i = 0; i < 3; i++) {
                due("job " + i + " in a ring of " + size, p.x.isDeadlocked(i), size > 1 && i < size);
                due("state", p.x.state(i), size == 1 && i == 0 ? 'r' : 'w');
            }
            p.x.run(1, 2);
            due("behind the last try", p.x.isDeadlocked(0) || p.x.isDeadlocked(1) || p.x.isDeadlocked(2), false);
        }
    }

    /** The jobs that a job waits for are those of which a lock hinders it now. */
    private static void waitingFor() {
        for (int bits = 1; bits <= 3; bits++) {
            Program p = new Program();
            for (int i = 0; i < 2; i++) {
                p.ran(1, p.lock(-1, p.local((bits >> i & 1) == 1 ? i : 5 + i)), p.none('u'), p.none('h'));
            }
            int job = p.ran(1, p.lock(-1, p.local(0), p.local(1)), p.none('h'));
            due("waits for", p.x.waitsFor(job), bits);
            p.x.run(0, 1);
            due("for the other one", p.x.waitsFor(job), bits & 2);
            p.x.run(1, 1);
            due("for none", p.x.waitsFor(job), 0);
            due("but it waits", p.x.state(job), 'w');
            p.x.run(job, 1);
            Check.fails("no more", UnsupportedOperationException.class, () -> p.x.waitsFor(job));
        }
    }

    /** "'C' ends the innermost one, 'R' all, the error 't' if there is none" */
    private static void noneBegun() {
        for (char kind : new char[] {'C', 'R'}) {
            Program p = new Program();
            int end = p.none(kind);
            int job = p.ran(1, end);
            due(kind + " without one", p.x.error(job), 't');
            int other = p.ran(2, p.none('B'), end, end);
            Check.fails("none with one", java.util.NoSuchElementException.class, () -> p.x.error(other));
            p.x.run(other, 1);
            due(kind + " behind it", p.x.error(other), 't');
            int third = p.ran(4, p.none('B'), p.none('B'), end, end, p.none('h'));
            due(kind + " of two, twice", p.x.state(third), kind == 'C' ? 'r' : 'e');
        }
    }

    private static void innermost() {
        Program p = new Program();
        int begin = p.none('B');
        int commit = p.none('C');
        int back = p.none('R');
        int set = p.set(p.global(0), p.number(1));
        int job = p.job(begin, begin, begin, set, commit, commit, commit, begin, begin, begin, back, begin, set, begin, back,
            p.none('e'));
        int[] levels = {1, 2, 3, 3, 2, 1, 0, 1, 2, 3, 0, 1, 1, 2, 0};
        int[] changes = {0, 0, 0, 0, 0, 0, 1, 1, 1, 1, 1, 1, 1, 1, 1};
        for (int i = 0; i < levels.length; i++) {
            p.x.run(job, 1);
            due("level behind command " + i, p.x.level(job), levels[i]);
            due("changes behind command " + i, p.x.written(), changes[i]);
            due("nodes behind command " + i, p.x.nodes(0), changes[i]);
        }
        due("none begun again", p.x.restarts(job), 0);
    }

    /** "Within the outermost one the job sees the globals as they were as it began, with its own changes; others do not." */
    private static void asItBegan() {
        Program p = new Program();
        int a = p.global(0);
        int b = p.global(0, p.number(1));
        int c = p.global(0, p.number(2));
        int job = p.ran(3, p.set(a, p.text("a")), p.none('B'), p.set(b, p.text("mine")), p.one('k', c), p.none('C'), p.none('h'));
        int other = p.ran(2, p.set(a, p.text("x")), p.set(c, p.text("y")), p.set(b, p.text("z")), p.show(b));
        due("as it began", p.looked(job, a) + p.looked(job, b) + p.looked(job, c), "amine");
        due("others do not", p.looked(other, a) + p.looked(other, b) + p.looked(other, c), "xy");
        due("order as it began", p.looked(job, p.two('O', p.global(0, p.text("")), 1)), "1");
        due("order of now", p.looked(other, p.two('O', p.global(0, p.text("")), 1)), "2");
        due("nodes of now", p.x.nodes(0), 2);
        p.x.run(other, 1);
        p.x.run(job, 1);
        due("its own kill", p.looked(job, c), "");
        due("not of others", p.looked(other, c), "y");
        p.x.run(job, 1);
        due("a kill is read, so it is begun again", p.x.restarts(job), 1);
        due("with the globals of now", p.looked(job, a) + p.looked(job, b) + p.looked(job, c), "xzy");
        p.x.run(job, 3);
        due("now it ends", p.x.level(job), 0);
        due("its changes", p.looked(other, b) + p.looked(other, c), "mine");
    }

    /** The restarts of a job that does a command in a transaction as another one does its own ahead of the 'C'. */
    private static int restarts(Program p, int within, int meanwhile) {
        int job = p.ran(2, p.none('B'), within, p.none('C'), p.none('h'));
        p.ran(1, meanwhile, p.none('h'));
        p.x.run(job, 1);
        due("sound", p.x.isSound(), true);
        return p.x.restarts(job);
    }

    /** "each reference to a global that was read, killed or merged from, with all below it" */
    private static void belowWhatIsRead() {
        int[][] rows = {{}, {1}, {2}, {1, 1}, {1, 2}, {2, 1}, {1, 1, 1}, {1, 1, 2}, {1, 2, 1}};
        for (int[] read : rows) {
            for (int[] set : rows) {
                boolean isBelow = set.length >= read.length && Arrays.equals(Arrays.copyOf(set, read.length), read);
                for (int way = 0; way < 6; way++) {
                    Program p = new Program();
                    int node = p.global(0, row(p, read));
                    int[] within = {p.show(node), p.one('k', node), p.two('m', p.local(0), node), p.show(p.one('D', node)),
                        p.show(p.two('G', node, p.number(1))), p.show(p.two('I', node, p.number(1)))};
                    due("way " + way + " of " + Arrays.toString(read) + ", set " + Arrays.toString(set),
                        restarts(p, within[way], p.set(p.global(0, row(p, set)), p.number(5))), isBelow ? 1 : 0);
                }
                Program p = new Program();
                int within = p.show(p.global(0, row(p, read)));
                due("another global", restarts(p, within, p.set(p.global(1, row(p, set)), p.number(5))), 0);
            }
        }
    }

    /** "for 'O' .. all of what is around it, the tree below the subscripts but the last one" */
    private static void aroundOrder() {
        int[][] rows = {{1}, {2}, {1, 1}, {1, 2}, {2, 1}, {1, 1, 1}, {1, 1, 2}, {1, 2, 1}, {3, 3, 3}};
        for (int[] read : rows) {
            for (int[] set : rows) {
                boolean isAround = set.length >= read.length
                    && Arrays.equals(Arrays.copyOf(set, read.length - 1), Arrays.copyOf(read, read.length - 1));
                if (set.length == read.length - 1 && Arrays.equals(set, Arrays.copyOf(read, set.length))) {
                    isAround = true;
                }
                for (int way = 0; way < 3; way++) {
                    Program p = new Program();
                    int[] row = row(p, read);
                    if (way == 2) {
                        row[row.length - 1] = p.text("");
                    }
                    int within = p.show(p.two('O', p.global(0, row), way % 2));
                    due("O of " + Arrays.toString(read) + " by " + way + ", set " + Arrays.toString(set),
                        restarts(p, within, p.set(p.global(0, row(p, set)), p.number(5))), isAround ? 1 : 0);
                }
            }
        }
    }

    /** "for .. 'Q' .. the whole tree" */
    private static void aroundQuery() {
        int[][] rows = {{}, {1}, {2}, {1, 1}, {1, 1, 1}, {3, 3, 3}};
        for (int[] read : rows) {
            for (int[] set : rows) {
                Program p = new Program();
                int within = p.show(p.one('Q', p.global(0, row(p, read))));
                due("Q of " + Arrays.toString(read) + ", set " + Arrays.toString(set),
                    restarts(p, within, p.set(p.global(0, row(p, set)), p.number(5))), 1);
            }
            Program p = new Program();
            int within = p.show(p.one('Q', p.global(0, row(p, read))));
            due("Q, another tree", restarts(p, within, p.set(p.global(1, row(p, read)), p.number(5))), 0);
        }
    }

    /** ".. has the values then that it had as the transaction began" */
    private static void valuesThen() {
        Program p = new Program();
        int one = p.number(1);
        int node = p.global(0, one);
        int job = p.ran(3, p.set(node, p.text("a")), p.none('B'), p.set(p.global(1), node), p.none('C'), p.show(p.global(1)));
        int other = p.ran(2, p.set(node, p.text("b")), p.set(node, p.text("a")), p.show(one), p.show(one));
        p.x.run(job, 1);
        due("the value as it was, again", p.x.restarts(job), 0);
        due("its change is made", p.looked(other, p.global(1)), "a");
        Program q = new Program();
        int first = q.number(1);
        int name = q.global(0, first);
        int set = q.set(name, q.text("a"));
        int third = q.ran(3, set, q.none('B'), q.set(q.global(1), name), q.none('C'), q.none('h'));
        q.ran(2, q.one('k', q.global(0)), set);
        q.x.run(third, 1);
        due("killed and set again", q.x.level(third), 0);
        Program r = new Program();
        int last = r.number(1);
        int empty = r.global(0, last);
        due("an empty value is not none", restarts(r, r.show(empty), r.set(empty, r.text(""))), 1);
        Program s = new Program();
        int mine = s.global(0, s.number(1));
        due("its own value read", restarts(s, s.show(s.two('I', mine, mine)), s.set(mine, s.number(1))), 1);
        Program t = new Program();
        int node2 = t.global(0, t.number(1));
        due("the same value set by both", restarts(t, t.set(node2, t.number(1)), t.set(node2, t.number(1))), 0);
    }

    /** A job that reads in a transaction and shows the times, and one that changes what it reads. */
    private static Program reader(int trap) {
        Program p = new Program();
        int one = p.number(1);
        int node = p.global(0);
        p.line(0, p.trap(trap), p.none('B'), p.show(p.text(".")), p.set(p.global(1), node), p.none('C'), p.show(p.text("!")),
            p.none('h'));
        p.line(1, p.loop(0, one, one, p.number(90), 2));
        p.line(2, p.set(node, p.local(0)));
        p.line(3, p.show(p.text("t")), p.show(p.local(5)), p.none('h'));
        p.x.job(0);
        p.x.job(1);
        p.x.run(0, 2);
        p.x.run(1, 1);
        return p;
    }

    /** "If not, all is as it was .. the job goes on behind the 'B' with the globals of now; the fourth time it is .. 't'" */
    private static void threeTimes() {
        for (int times = 0; times <= 3; times++) {
            Program p = reader(3);
            for (int i = 0; i < times; i++) {
                p.x.run(0, 2);
                p.x.run(1, 2);
                due("the C", p.x.run(0, 1), 1);
                due("begun again", p.x.restarts(0), i + 1);
                due("one level", p.x.level(0), 1);
                Check.fails("no error", java.util.NoSuchElementException.class, () -> p.x.error(0));
            }
            p.x.run(0, 3);
            due("ended behind " + times, p.x.level(0), 0);
            due("its change, with the value of now", p.looked(1, p.global(1)), times == 0 ? "" : String.valueOf(times));
            p.x.run(0, 9);
            due("what was put out stays", p.shown(0), "....".substring(0, times + 1) + "!");
            due("restarts stay", p.x.restarts(0), times);
        }
    }

    private static void fourthIsError() {
        for (int trap = -1; trap <= 3; trap += 4) {
            Program p = reader(trap);
            for (int i = 0; i < 4; i++) {
                p.x.run(0, 2);
                p.x.run(1, 2);
                p.x.run(0, 1);
            }
            due("the error", p.x.error(0), 't');
            due("no restart", p.x.restarts(0), 3);
            due("no level", p.x.level(0), 0);
            due("no change of it", p.x.nodes(1), 0);
            due("state", p.x.state(0), trap < 0 ? 'e' : 'r');
            due("the globals of now", p.looked(0, p.global(0)), "4");
            p.x.run(0, 2);
            due("the trap", p.shown(0), trap < 0 ? "...." : "....t");
        }
    }

    /** Each outermost transaction has its own four times. */
    private static void timesAnew() {
        Program p = new Program();
        int one = p.number(1);
        int node = p.global(0);
        int read = p.show(p.one('D', node));
        int begin = p.none('B');
        int commit = p.none('C');
        int job = p.ran(1, begin, begin, read, commit, commit, begin, read, commit, p.none('h'));
        p.line(2, p.set(node, p.local(0)));
        int other = p.ran(1, p.loop(0, one, one, p.number(90), 2));
        for (int i = 0; i < 3; i++) {
            p.x.run(job, 3);
            p.x.run(other, 2);
            p.x.run(job, 1);
            due("D reads the value too", p.x.restarts(job), i + 1);
            due("the inner one is begun again as well", p.x.level(job), 1);
        }
        p.x.run(job, 4);
        due("ended", p.x.level(job), 0);
        p.x.run(job, 1);
        for (int i = 0; i < 3; i++) {
            p.x.run(job, 1);
            p.x.run(other, 2);
            p.x.run(job, 1);
            due("the second one", p.x.restarts(job), i + 4);
        }
        p.x.run(job, 1);
        p.x.run(other, 2);
        p.x.run(job, 1);
        due("its fourth time", p.x.error(job), 't');
        due("in all", p.x.restarts(job), 6);
    }

    /** "all is as it was as it began, locals, frames, truth and what is remembered" */
    private static void asItWas() {
        Program p = new Program();
        int one = p.number(1);
        int node = p.global(0, one);
        p.line(0, p.trap(19), p.one('w', 2), p.set(p.local(1), p.text("w")), p.none('B'), p.show(node), p.one('k', p.local(0)),
            p.set(p.local(1), p.text("n")), p.one('w', 1), p.trap(5), p.show(p.global(3)), p.one('i', one), p.none('C'), p.none('h'));
        int job = p.ran(15, p.one('w', 4), p.set(p.local(0), p.text("v")), p.show(p.global(2, one, one)), p.of('d', 0, 0, 0),
            p.show(p.local(1)));
        due("behind the i", p.x.truth(job), 1);
        due("the C is next", p.x.steps(job), 15);
        p.x.run(p.job(p.set(node, p.text("x"))), 1);
        due("ahead of it", p.looked(job, p.one('D', p.local(0))), "0");
        p.x.run(job, 1);
        due("begun again", p.x.restarts(job), 1);
        due("locals", p.looked(job, p.local(0)) + p.looked(job, p.local(1)), "vw");
        due("frames", p.x.depth(job), 2);
        due("truth", p.x.truth(job), 0);
        due("remembered", p.looked(job, p.two('_', p.one('D', p.naked(one)), p.naked(one))), "0");
        due("steps go on", p.x.steps(job), 16);
        due("put out", p.x.output(job), 0);
        p.x.run(job, 1);
        due("the value of now", p.shown(job), "x");
        p.x.run(job, 7);
        due("all again", p.x.restarts(job), 1);
        due("and ended", p.x.level(job), 0);
    }

    /** ".. but not what was put out, nor locks" */
    private static void whatStays() {
        Program p = new Program();
        int node = p.global(0);
        int job = p.ran(5, p.lock(-1, p.local(1)), p.none('B'), p.show(p.two('_', p.text("a"), node)), p.lock(-1, p.local(2)),
            p.none('u'), p.lock(-1, p.local(3), p.local(4)), p.none('C'), p.none('h'));
        p.x.run(job, 1);
        p.x.run(p.job(p.set(node, p.text("b"))), 1);
        due("two names", p.x.locks(job), 2);
        p.x.run(job, 1);
        due("begun again", p.x.restarts(job), 1);
        due("locks of now", p.x.locks(job), 2);
        due("put out", p.shown(job), "a");
        p.x.run(job, 1);
        due("put out again", p.shown(job), "aab");
        p.x.run(job, 3);
        due("locked anew", p.x.locks(job), 2);
        Program q = new Program();
        int wrong = q.show(q.two('/', q.number(1), q.number(0)));
        q.line(0, q.none('C'), q.none('h'));
        int other = q.ran(4, q.trap(0), q.none('B'), q.show(q.global(0)), wrong);
        q.x.run(q.job(q.set(q.global(0), q.number(1))), 1);
        q.x.run(other, 1);
        due("begun again from a trap", q.x.restarts(other), 1);
        due("the last error stays", q.x.error(other), 'z');
        q.x.run(other, 2);
        due("the trap is there again", q.x.state(other), 'r');
        q.x.run(other, 1);
        due("and now it ends", q.x.level(other), 0);
    }

    /** 'R' takes only the changes of globals back. */
    private static void rolledBack() {
        Program p = new Program();
        int one = p.number(1);
        int node = p.global(0, one, one);
        int job = p.ran(8, p.set(node, p.text("a")), p.none('B'), p.set(node, p.text("b")), p.one('k', p.global(0)),
            p.set(p.local(0), p.text("l")), p.show(p.global(1, one)), p.one('i', one), p.none('R'), p.set(p.naked(one), one));
        due("the value", p.looked(job, node), "a");
        due("changes", p.x.written(), 1);
        due("a local", p.looked(job, p.local(0)), "l");
        due("the truth", p.x.truth(job), 1);
        due("no level", p.x.level(job), 0);
        p.x.run(job, 1);
        due("what is remembered", p.looked(job, p.global(1, one)), "1");
        due("written now", p.x.written(), 2);
    }

    /** "and the changes are gone, as by 'R', and as a job ends" */
    private static void gone() {
        for (int way = 0; way < 6; way++) {
            Program p = new Program();
            int one = p.number(1);
            int[] ends = {p.none('h'), p.one('q', -1), p.show(p.two('/', one, p.number(0))), p.show(one), p.none('R'), p.show(one)};
            int job = p.ran(4, p.none('B'), p.none('B'), p.set(p.global(0), one), p.set(p.global(1), one), ends[way]);
            due("two levels", p.x.level(job), 2);
            if (way == 5) {
                due("lost", p.x.crash(), 0);
            } else {
                p.x.run(job, 1);
            }
            due("no level by end " + way, p.x.level(job), 0);
            due("no changes", p.x.written() + p.x.nodes(0) + p.x.nodes(1), 0);
            due("what it sees", p.looked(job, p.global(0)), "");
            due("sound", p.x.isSound(), true);
            due("same", p.x.isSame(), true);
        }
    }

    /** "Transactions, locks and 'h' are the error 'x' within 'F'." */
    private static void notWithinCalls() {
        for (int way = 0; way < 12; way++) {
            Program p = new Program();
            int one = p.number(1);
            int lock = p.lock(p.two('I', p.local(0), p.two('/', one, p.number(0))), p.global(0));
            int[] commands = {p.none('h'), lock, p.none('u'), p.none('B'), p.none('C'), p.none('R')};
            int command = way < 6 ? commands[way] : p.two('c', one, commands[way - 6]);
            p.line(0, command, p.one('q', one));
            p.line(1, p.trap(2), p.of('d', 0, 0, 0));
            p.line(2, p.one('q', p.text("trapped")));
            due("within a call " + way, p.shownBy(p.call(0)), "error x");
            due("within a frame of a call " + way, p.shownBy(p.call(1)), "trapped");
            int job = p.ran(4, p.trap(2), p.none('B'), p.lock(-1, p.local(3)), p.show(p.call(0)));
            due("not even in a transaction " + way, p.x.error(job), 'x');
            due("which goes on", p.x.level(job), 1);
            due("and has its locks", p.x.locks(job), 1);
        }
    }

    private static void readWithinCalls() {
        for (int way = 0; way < 2; way++) {
            Program p = new Program();
            int node = p.global(0);
            p.line(0, p.set(p.global(1), p.number(2)), p.one('q', way == 0 ? node : p.number(1)));
            due("read within a call", restarts(p, p.show(p.call(0)), p.set(node, p.number(1))), 1 - way);
            due("changes within a call", p.x.nodes(1), way);
        }
    }

    /** An error within a transaction does not end it, unless it ends the job. */
    private static void errorsWithin() {
        Program p = new Program();
        int one = p.number(1);
        p.line(0, p.show(p.local(0)), p.none('C'), p.show(one));
        p.line(1, p.none('B'), p.one('w', 1), p.set(p.global(0), one), p.show(p.two('/', one, p.number(0))));
        int job = p.ran(7, p.set(p.local(0), p.text("l")), p.trap(0), p.of('d', 1, 0, 0));
        due("the error", p.x.error(job), 'z');
        due("the frame of the trap", p.x.depth(job), 1);
        due("still within", p.x.level(job), 1);
        p.x.run(job, 2);
        due("ended by the trap", p.x.level(job), 0);
        due("its change is made", p.x.nodes(0), 1);
    }

    /** "each value that a node gets, and each kill, with all below, also of nothing, are written behind each other" */
    private static void changesWritten() {
        Program p = new Program();
        int one = p.number(1);
        int node = p.global(0, one);
        int[] commands = {p.set(node, one), p.set(node, one), p.one('k', node), p.one('k', node), p.one('k', p.global(3)),
            p.show(p.two('I', node, one)), p.show(p.two('I', node, p.number(0))), p.set(p.local(0), one), p.one('k', p.local(0)),
            p.show(p.two('I', p.local(0), one)), p.two('m', p.local(1), p.global(0)), p.two('m', node, p.global(2)),
            p.set(p.global(0, one, one, one), p.text("")), p.one('k', p.global(0)), p.show(p.two('G', node, one))};
        int[] written = {1, 2, 3, 4, 5, 6, 7, 7, 7, 7, 7, 7, 8, 9, 9};
        int job = p.job(commands);
        for (int i = 0; i < written.length; i++) {
            p.x.run(job, 1);
            due("changes behind command " + i, p.x.written(), written[i]);
        }
        due("all in the journal", p.x.flush(), 9);
        Program q = new Program();
        int empty = q.text("");
        int other = q.ran(1, q.set(q.global(0, empty), q.number(1)));
        due("an error", q.x.error(other), 's');
        due("is no change", q.x.written(), 0);
    }

    private static void changesOfMerges() {
        for (int nodes = 0; nodes <= 4; nodes++) {
            Program p = new Program();
            int one = p.number(1);
            int[] sets = {p.set(p.local(0), one), p.set(p.local(0, one), one), p.set(p.local(0, one, one), one),
                p.set(p.local(0, one, one, one), one)};
            int[] commands = new int[nodes + 3];
            System.arraycopy(sets, 0, commands, 0, nodes);
            commands[nodes] = p.two('m', p.global(0), p.local(0));
            commands[nodes + 1] = p.two('m', p.global(1, one), p.local(0));
            commands[nodes + 2] = p.two('m', p.global(2, one, one, one), p.local(0));
            p.ran(9, commands);
            due("merged", p.x.nodes(0), nodes);
            due("merged one down", p.x.nodes(1), Math.min(nodes, 3));
            due("merged three down", p.x.nodes(2), Math.min(nodes, 1));
            due("changes", p.x.written(), nodes + Math.min(nodes, 3) + Math.min(nodes, 1));
        }
    }

    /** "to flush brings all that is written into the journal" */
    private static void flushed() {
        Program p = new Program();
        int set = p.set(p.global(0), p.two('I', p.local(0), p.number(1)));
        int job = p.job(set, set, set, set);
        due("nothing", p.x.flush(), 0);
        for (int i = 1; i <= 3; i++) {
            p.x.run(job, 1);
            due("written", p.x.written(), 1);
            due("not in the journal", p.x.journal(), i - 1);
            due("flushed", p.x.flush(), i);
            due("nothing is left", p.x.written(), 0);
            due("in the journal", p.x.journal(), i);
            due("again", p.x.flush(), i);
        }
    }

    /** "An image keeps the globals as the journal makes them." */
    private static void imaged() {
        Program p = new Program();
        int set = p.set(p.global(0), p.two('I', p.local(0), p.number(1)));
        int job = p.job(set, set, set, set, set);
        due("of nothing", p.x.image(), 0);
        p.x.run(job, 2);
        due("of what is not flushed", p.x.image(), 0);
        p.x.flush();
        due("of two", p.x.image(), 2);
        due("the journal stays", p.x.journal(), 2);
        p.x.run(job, 1);
        due("of two still", p.x.image(), 2);
        due("lost", p.x.crash(), 1);
        due("the image", p.looked(job, p.global(0)), "2");
        due("of two again", p.x.image(), 2);
    }

    /** "the globals are those of the image with what was brought into the journal behind it" */
    private static void crashed() {
        for (int image = 0; image <= 3; image++) {
            for (int flush = image; flush <= 4; flush++) {
                Program p = new Program();
                int one = p.number(1);
                int job = p.job(p.set(p.global(0, one), one), p.set(p.global(0), p.text("a")), p.one('k', p.global(0, one)),
                    p.set(p.global(1), p.text("b")), p.none('h'));
                for (int step = 0; step < 5; step++) {
                    if (step == image) {
                        p.x.flush();
                        due("image of", p.x.image(), image);
                    }
                    if (step == flush) {
                        p.x.flush();
                    }
                    p.x.run(job, 1);
                }
                due("changes", p.x.journal() + p.x.written(), 4);
                due("lost", p.x.crash(), 4 - flush);
                due("journal", p.x.journal(), flush);
                due("nothing written", p.x.written(), 0);
                due("nodes of 0", p.x.nodes(0), new int[] {0, 1, 2, 1, 1}[flush]);
                due("nodes of 1", p.x.nodes(1), flush == 4 ? 1 : 0);
                due("a done job stays", p.x.state(job), 'd');
                due("sound", p.x.isSound(), true);
                due("again", p.x.crash(), 0);
                int other = p.ran(1, p.set(p.global(2), one));
                due("goes on", p.x.nodes(2), 1);
                due("ready for more", p.x.state(other), 'd');
                due("written behind", p.x.flush(), flush + 1);
            }
        }
    }

    /** "what was written and not flushed is lost" */
    private static void lostOnly() {
        for (int lost = 0; lost <= 3; lost++) {
            Program p = new Program();
            int set = p.set(p.global(0, p.two('I', p.local(0), p.number(1))), p.number(7));
            int job = p.job(set, set, set, set, set);
            p.x.run(job, 1);
            p.x.flush();
            if (lost > 0) {
                p.x.run(job, lost);
            }
            due("written", p.x.written(), lost);
            due("lost", p.x.crash(), lost);
            due("left", p.x.nodes(0), 1);
            due("ended", p.x.state(job), 'x');
            due("its locals stay", p.looked(job, p.local(0)), String.valueOf(1 + lost));
        }
    }

    /** "A replica has the globals by as much of the journal as it followed." */
    private static void followed() {
        for (int count = 97; count <= 101; count++) {
            for (int changes : new int[] {1, 2, 98, 99}) {
                Program p = new Program();
                int one = p.number(1);
                p.line(0, p.set(p.global(0, p.local(0)), one));
                int job = p.job(p.loop(0, one, one, p.number(count), 0));
                p.x.run(job, 200);
                p.x.run(job, 200);
                p.x.flush();
                due("lag", p.x.lag(), count);
                due("follows " + changes + " of " + count, p.x.follow(changes), Math.min(changes, count));
                due("lag then", p.x.lag(), count - Math.min(changes, count));
                due("same then", p.x.isSame(), changes >= count);
                due("follows again", p.x.follow(99), Math.min(count, changes + 99));
                due("same", p.x.isSame(), changes + 99 >= count);
            }
        }
        Program p = new Program();
        int job = p.ran(1, p.set(p.global(0), p.number(1)), p.none('h'));
        due("what is not flushed", p.x.follow(1) + p.x.lag(), 0);
        due("is not there", p.x.isSame(), false);
        p.x.crash();
        due("but the same by a crash", p.x.isSame(), true);
        due("of the job", p.x.state(job), 'x');
        for (int changes : new int[] {-1, 0, 100, 101, Integer.MIN_VALUE, Integer.MAX_VALUE}) {
            Check.fails("follow " + changes, IllegalArgumentException.class, () -> p.x.follow(changes));
        }
        due("1", p.x.follow(1), 0);
        due("99", p.x.follow(99), 0);
    }

    /** isSame is of values, not of changes. */
    private static void sameValues() {
        Program p = new Program();
        int one = p.number(1);
        int node = p.global(3, one);
        int job = p.job(p.set(node, one), p.set(node, one), p.set(node, p.text("01")), p.set(node, one), p.one('k', node),
            p.one('k', node), p.none('B'), p.set(node, one), p.none('C'), p.none('h'));
        boolean[] same = {false, true, false, true, false, false, false, false, true};
        p.x.run(job, 1);
        due("a value more", p.x.isSame(), false);
        p.x.flush();
        p.x.follow(1);
        due("followed", p.x.isSame(), true);
        for (int i = 1; i < same.length; i++) {
            p.x.run(job, 1);
            due("same behind command " + i, p.x.isSame(), same[i]);
        }
    }

    /** isSame is of names too. */
    private static void sameNames() {
        for (int name = 1; name <= 3; name++) {
            Program p = new Program();
            int one = p.number(1);
            int job = p.ran(1, p.set(p.global(0), one), p.one('k', p.global(0)), p.set(p.global(name), one), p.none('h'));
            p.x.flush();
            p.x.follow(1);
            due("same", p.x.isSame(), true);
            p.x.run(job, 2);
            due("the same value of another global", p.x.isSame(), false);
            p.x.flush();
            due("two more", p.x.follow(2), 3);
            due("same again", p.x.isSame(), true);
        }
    }

    /** A transaction that begins in the tenth frame is begun again there. */
    private static void tenFramesAgain() {
        for (int depth = 9; depth <= 10; depth++) {
            Program p = new Program();
            int one = p.number(1);
            int node = p.global(0);
            int isDeep = p.two('<', p.two('I', p.local(0), one), p.number(depth - 1));
            p.line(0, p.two('c', isDeep, p.of('d', 0, 0, 0)), p.none('B'), p.show(p.one('D', node)), p.none('C'));
            p.line(1, p.show(p.text("!")));
            int job = p.ran(depth + 2, p.of('d', 0, 0, 0), p.show(p.text("end")));
            due("frames", p.x.depth(job), depth);
            p.ran(1, p.set(node, one));
            p.x.run(job, 1);
            due("begun again", p.x.restarts(job), 1);
            due("frames then", p.x.depth(job), depth);
            p.x.run(job, 200);
            due("each frame has its own B and C", p.x.restarts(job), 1);
            due("to the end", p.shown(job), "01" + "1".repeat(depth - 2) + "end");
        }
    }

    /** ".. frames": a loop is as it was, with its step and its last number, whatever loop its frame has meanwhile. */
    private static void loopsAgain() {
        Program p = new Program();
        int one = p.number(1);
        int node = p.global(0);
        int isOnce = p.one('!', node);
        p.line(0, p.loop(0, one, one, p.number(3), 1), p.loop(0, p.number(10), p.number(-5), p.number(-100), 2), p.show(p.text("x")));
        p.line(1, p.two('c', p.two('=', p.local(0), one), p.none('B')), p.show(p.local(0)), p.two('c', isOnce, p.none('z')),
            p.two('c', p.none('T'), p.none('z')));
        p.line(2, p.show(p.local(0)), p.none('C'));
        int job = p.ran(8, p.of('d', 0, 0, 0));
        due("in the second loop", p.shown(job), "1");
        p.x.run(job, 1);
        due("shown", p.shown(job), "110");
        p.x.run(p.job(p.set(node, one)), 1);
        p.x.run(job, 1);
        due("begun again", p.x.restarts(job), 1);
        due("the local", p.looked(job, p.local(0)), "1");
        due("the frames", p.x.depth(job), 3);
        p.x.run(job, 3 + 4 + 1);
        due("its step", p.shown(job), "11012");
        p.x.run(job, 6);
        due("its last number", p.shown(job), "110123");
        due("and its end", p.looked(job, p.local(0)), "4");
        due("in its frame", p.x.depth(job), 2);
    }

    /** ".. frames": what 'w' saved is as it was, though another frame stood in its place. */
    private static void framesAgain() {
        Program p = new Program();
        int one = p.number(1);
        int node = p.global(0);
        p.line(0, p.one('w', 3), p.set(p.local(0), p.text("mine")), p.none('B'), p.show(node), p.two('c', p.one('!', node),
            p.one('q', -1)), p.none('C'), p.show(p.local(0)));
        p.line(1, p.set(p.local(0), p.text("else")), p.one('w', 5), p.set(p.local(0), p.text("other")), p.none('C'), p.show(one));
        int job = p.ran(12, p.set(p.local(0), p.text("first")), p.set(p.local(1), p.text("second")), p.of('d', 0, 0, 0),
            p.of('d', 1, 0, 0), p.show(p.text("end")));
        due("ahead of the C", p.looked(job, p.local(0)) + p.looked(job, p.local(1)), "othersecond");
        p.x.run(p.job(p.set(node, one)), 1);
        p.x.run(job, 1);
        due("begun again", p.x.restarts(job), 1);
        due("in its frame", p.looked(job, p.local(0)) + p.looked(job, p.local(1)), "mine");
        p.x.run(job, 4);
        due("shown", p.shown(job), "1mine");
        due("saved ones are those of the first frame", p.looked(job, p.local(0)) + p.looked(job, p.local(1)), "firstsecond");
        due("in the outer frame", p.x.depth(job), 1);
    }

    /** Frames above the one that is gone on with are gone, and what they saved too. */
    private static void framesAbove() {
        Program p = new Program();
        int one = p.number(1);
        int node = p.global(0);
        p.line(0, p.show(node), p.one('w', 1), p.set(p.local(0), p.text("c")), p.none('C'), p.show(p.local(0)));
        p.line(1, p.set(p.local(0), p.text("d")), p.one('w', 1), p.set(p.local(0), p.text("e")), p.show(p.local(0)));
        int job = p.ran(6, p.set(p.local(0), p.text("a")), p.none('B'), p.of('d', 0, 0, 0), p.of('d', 1, 0, 0), p.show(p.local(0)));
        p.x.run(p.job(p.set(node, one)), 1);
        p.x.run(job, 1);
        due("begun again", p.x.restarts(job), 1);
        due("one frame", p.x.depth(job), 1);
        due("the local", p.looked(job, p.local(0)), "a");
        p.line(0, p.none('C'), p.set(p.local(0), p.text("f")));
        p.x.run(job, 3);
        due("another line in its place saves nothing", p.looked(job, p.local(0)), "f");
        p.x.run(job, 20);
        due("what the next frame saves", p.shown(job), "ed");
    }

    /** Names that are locked or waited for are as they were, whatever texts are made later. */
    private static void textsOfLocks() {
        Program p = new Program();
        int one = p.number(1);
        int two = p.number(2);
        int fresh = p.two('_', p.text("lock"), p.two('I', p.local(7), one));
        int other = p.two('_', p.text("text"), p.two('I', p.local(7), one));
        int job = p.ran(3, p.lock(-1, p.global(0, fresh)), p.show(other), p.show(other), p.none('u'), p.none('h'));
        int second = p.ran(1, p.lock(two, p.global(0, p.two('_', p.text("text"), two))), p.lock(one, p.global(0, fresh)), p.none('h'));
        due("another name is free", p.x.locks(second), 1);
        p.x.run(second, 1);
        due("the name is not", p.x.truth(second), 0);
        Program q = new Program();
        int first = q.number(1);
        int name = q.two('_', q.text("lock"), q.two('I', q.local(7), first));
        int text = q.two('_', q.text("text"), q.two('I', q.local(7), first));
        q.ran(2, q.lock(-1, q.global(0, q.text("lock1"))), q.show(text), q.show(text), q.none('u'), q.none('h'));
        int waiting = q.ran(1, q.lock(-1, q.global(0, name)), q.none('h'));
        q.x.run(0, 1);
        due("waits still", q.x.run(waiting, 1), 1);
        due("for the name", q.x.waitsFor(waiting), 1);
        q.x.run(0, 1);
        q.x.run(waiting, 1);
        due("has it", q.x.locks(waiting), 1);
        int third = q.ran(2, q.lock(first, q.global(0, q.text("text1"))), q.lock(first, q.global(0, q.text("lock1"))), q.none('h'));
        due("and no other one", q.x.locks(third), 1);
        due("sound", q.x.isSound() && p.x.isSound(), true);
        due("job", job, 0);
    }

    /** What was read is as it was, whatever texts are made later. */
    private static void textsRead() {
        for (int way = 0; way < 2; way++) {
            Program p = new Program();
            int one = p.number(1);
            int fresh = p.two('_', p.text("read"), p.two('I', p.local(7), one));
            int other = p.two('_', p.text("text"), p.two('I', p.local(7), one));
            int job = p.ran(4, p.none('B'), p.show(p.one('D', p.global(0, fresh))), p.show(other), p.show(other), p.none('C'),
                p.none('h'));
            p.ran(1, p.set(p.global(0, p.text(way == 0 ? "read1" : "text2")), one));
            p.x.run(job, 1);
            due("a text that was read", p.x.restarts(job), 1 - way);
        }
    }
}
