import java.util.NoSuchElementException;

/**
 * Promises 1 to 34, one after the other: what each one answers at its boundaries, what it throws, which of two
 * exceptions comes first, and that a method that throws changes nothing.
 */
public final class BoundPromisesTest {
    private static final String KINDS = ",#tvgn+-*/%_=<>[]&|!DOQGILEPSTFskmiecdfzqworhluBCR";

    private BoundPromisesTest() {
    }

    public static void main(String[] args) {
        newObject();
        nodeKinds();
        nodeOperands();
        nodeOrder();
        lineRange();
        lineGoesOn();
        jobLines();
        runSteps();
        runEnds();
        noJob();
        errorLetters();
        truths();
        depths();
        outputIndexes();
        looks();
        lookOrder();
        lookWithout();
        looksSee();
        lookErrors();
        nodeCounts();
        lockCounts();
        waiting();
        storeCounts();
        sums();
        shares();
        means();
        soundAlways();
        lastCall();
        Check.finish("BoundPromisesTest");
    }

    private static void due(String what, Object got, Object due) {
        Check.same(what, got, due);
    }

    private static void refuses(Program p, String what, Class<? extends RuntimeException> due, Check.Call call) {
        String before = p.all();
        Check.fails(what, due, call);
        due(what + " changes nothing", p.all(), before);
    }

    /** A program of which one job has all that can be asked, one waits, and a third one is over by an error. */
    private static Program busy() {
        Program p = new Program();
        int one = p.number(1);
        p.line(1, p.set(p.global(0, one), one), p.show(p.text("abc")), p.lock(-1, p.local(0)), p.none('B'),
            p.set(p.global(1), one), p.one('i', one), p.none('h'));
        p.line(2, p.lock(-1, p.local(0)), p.show(p.text("x")));
        p.line(3, p.show(p.two('/', one, p.number(0))));
        p.x.run(p.x.job(1), 1);
        p.x.flush();
        p.x.run(0, 5);
        p.x.run(p.x.job(2), 3);
        p.x.run(p.x.job(3), 1);
        p.x.look(0, p.text("kept"));
        return p;
    }

    /** Promise 1: "Creates an empty store without code and jobs." */
    private static void newObject() {
        Program p = new Program();
        GlobalSpan x = p.x;
        Check.fails("no code", UnsupportedOperationException.class, () -> x.line(0, 0));
        for (int line = 0; line < 20; line++) {
            due("no line " + line, x.line(line, -1), -1);
        }
        Check.fails("no jobs", IndexOutOfBoundsException.class, () -> x.state(0));
        for (int global = 0; global < 4; global++) {
            due("no nodes", x.nodes(global), 0);
        }
        due("no changes", x.written() + x.journal() + x.flush() + x.image() + x.crash() + x.follow(99) + x.lag(), 0);
        due("same and sound", x.isSame() && x.isSound(), true);
        due("checksum", x.checksum(), 7L);
        due("nothing kept", x.lookNumber(), 0);
        Check.fails("no character", NoSuchElementException.class, () -> x.lookAt(0));
        Check.fails("no share", ArithmeticException.class, x::doneShare);
        Check.fails("no mean", ArithmeticException.class, x::meanSteps);
        due("the first node", x.node('h', 0, 0, 0), 0);
        due("the first job", x.job(19), 0);
        GlobalSpan other = new GlobalSpan();
        Check.fails("another object has its own", IndexOutOfBoundsException.class, () -> other.state(0));
        due("code too", other.node('h', 0, 0, 0), 0);
    }

    /** Promise 2: "IllegalArgumentException if there is no such kind" */
    private static void nodeKinds() {
        Program p = new Program();
        p.number(1);
        p.local(0);
        p.list(0);
        for (int kind = 0; kind < 300; kind++) {
            char c = (char) kind;
            boolean isKind = KINDS.indexOf(c) >= 0;
            int[][] operands = {{0, 0, 0}, {1, 0, 0}, {1, 1, 0}, {0, -1, 0}, {2, -1, 0}, {1, -1, 19}};
            if (!isKind) {
                for (int[] o : operands) {
                    Check.fails("kind " + kind, IllegalArgumentException.class, () -> p.x.node(c, o[0], o[1], o[2]));
                }
            }
        }
        Check.fails("the last character", IllegalArgumentException.class, () -> p.x.node(Character.MAX_VALUE, 0, 0, 0));
        due("no number was given", p.number(1), 3);
        Program q = new Program();
        int one = q.number(1);
        int local = q.local(0);
        int list = q.list(one);
        int locals = q.list(local);
        int three = q.list(one, one, one);
        int halt = q.none('h');
        int count = 8;
        due("eight nodes ahead", halt, count - 1);
        for (char kind : KINDS.toCharArray()) {
            int a = "vgFdwr".indexOf(kind) >= 0 ? 1 : kind == 'n' ? list : kind == 'l' ? locals
                : "DOQGIksm".indexOf(kind) >= 0 ? local : kind == 't' ? 65 : kind == 'f' ? 3 : one;
            int b = kind == 'f' ? three : "vgF,l".indexOf(kind) >= 0 ? -1 : kind == 'm' ? local : kind == 'c' ? halt
                : kind == 't' ? 66 : one;
            int c = kind == 'f' ? 4 : kind == 't' ? 0 : one;
            due("kind " + kind + " takes the next number", q.x.node(kind, a, b, c), count);
            count++;
        }
        due("kinds", KINDS.length(), 50);
    }

    /** Promise 2: ".. or an operand is not as told for it"; "operands without meaning are not looked at" */
    private static void nodeOperands() {
        Program p = new Program();
        int one = p.number(1);
        int local = p.local(0);
        int list = p.list(one);
        int halt = p.none('h');
        int halts = p.list(halt);
        int most = Integer.MAX_VALUE;
        int least = Integer.MIN_VALUE;
        int[] others = {list, halt, halts, -1, 99, most, least};
        for (char kind : "!Lio".toCharArray()) {
            for (int wrong : others) {
                Check.fails(kind + " of " + wrong, IllegalArgumentException.class, () -> p.x.node(kind, wrong, 0, 0));
            }
        }
        for (char kind : "DOQk".toCharArray()) {
            for (int wrong : new int[] {one, list, halt, -1, 99, most}) {
                Check.fails(kind + " of " + wrong, IllegalArgumentException.class, () -> p.x.node(kind, wrong, 0, 0));
            }
        }
        for (char kind : "+-*/%_=<>[]&|".toCharArray()) {
            for (int wrong : others) {
                Check.fails(kind + " a " + wrong, IllegalArgumentException.class, () -> p.x.node(kind, wrong, one, 0));
                Check.fails(kind + " b " + wrong, IllegalArgumentException.class, () -> p.x.node(kind, one, wrong, 0));
            }
        }
        for (char kind : "GIs".toCharArray()) {
            for (int wrong : others) {
                Check.fails(kind + " a " + wrong, IllegalArgumentException.class, () -> p.x.node(kind, wrong, one, 0));
                Check.fails(kind + " b " + wrong, IllegalArgumentException.class, () -> p.x.node(kind, local, wrong, 0));
            }
            Check.fails(kind + " of no reference", IllegalArgumentException.class, () -> p.x.node(kind, one, one, 0));
        }
        for (char kind : "EPS".toCharArray()) {
            for (int wrong : others) {
                Check.fails(kind + " a " + wrong, IllegalArgumentException.class, () -> p.x.node(kind, wrong, one, one));
                Check.fails(kind + " b " + wrong, IllegalArgumentException.class, () -> p.x.node(kind, one, wrong, one));
                Check.fails(kind + " c " + wrong, IllegalArgumentException.class, () -> p.x.node(kind, one, one, wrong));
            }
        }
        for (int wrong : new int[] {one, list, halt, halts, -1, 99}) {
            Check.fails("m a " + wrong, IllegalArgumentException.class, () -> p.x.node('m', wrong, local, 0));
            Check.fails("m b " + wrong, IllegalArgumentException.class, () -> p.x.node('m', local, wrong, 0));
        }
        for (int wrong : new int[] {one, local, list, halts, -1, 99}) {
            Check.fails("c b " + wrong, IllegalArgumentException.class, () -> p.x.node('c', one, wrong, 0));
        }
        for (int wrong : new int[] {list, halt, halts, -2, 99}) {
            Check.fails("q " + wrong, IllegalArgumentException.class, () -> p.x.node('q', wrong, 0, 0));
        }
        for (int wrong : new int[] {one, local, halt, halts, -2, 99}) {
            Check.fails("v b " + wrong, IllegalArgumentException.class, () -> p.x.node('v', 0, wrong, 0));
            Check.fails("g b " + wrong, IllegalArgumentException.class, () -> p.x.node('g', 0, wrong, 0));
            Check.fails("F b " + wrong, IllegalArgumentException.class, () -> p.x.node('F', 0, wrong, 0));
            Check.fails("l a " + wrong, IllegalArgumentException.class, () -> p.x.node('l', wrong, -1, 0));
            Check.fails("f b " + wrong, IllegalArgumentException.class, () -> p.x.node('f', 0, wrong, 0));
        }
        Check.fails("l of no references", IllegalArgumentException.class, () -> p.x.node('l', list, -1, 0));
        int mixed = p.list(local, one);
        int both = p.list(one, local);
        Check.fails("l of one reference", IllegalArgumentException.class, () -> p.x.node('l', mixed, -1, 0));
        Check.fails("l of the other", IllegalArgumentException.class, () -> p.x.node('l', both, -1, 0));
        int next = p.number(1);
        for (char kind : "TezhuBCR".toCharArray()) {
            next++;
            due(kind + " looks at nothing", p.x.node(kind, least, most, 99), next);
        }
        due("# at a alone", p.x.node('#', 1, most, least), next + 1);
        due("! at a alone", p.x.node('!', one, halt, most), next + 2);
        due("+ at two", p.x.node('+', one, one, halt), next + 3);
        due("v at two", p.x.node('v', 0, -1, least), next + 4);
        due("n at one", p.x.node('n', list, halts, halt), next + 5);
        due("d at one", p.x.node('d', 0, -9, -9), next + 6);
        due("w at one", p.x.node('w', 1, 999, 999), next + 7);
        due("r at one", p.x.node('r', -1, 999, 999), next + 8);
        due("q at one", p.x.node('q', -1, 999, 999), next + 9);
        due("Q at one", p.x.node('Q', local, 999, 999), next + 10);
    }

    /** Promise 2: the order of its exceptions, and that they change nothing. */
    private static void nodeOrder() {
        Program p = busy();
        int last = p.number(0);
        refuses(p, "no kind", IllegalArgumentException.class, () -> p.x.node('x', 0, 0, 0));
        refuses(p, "an operand", IllegalArgumentException.class, () -> p.x.node('+', 0, 120, 0));
        due("the next number", p.number(0), last + 1);
        int node = last;
        for (int depth = 2; depth <= 12; depth++) {
            node = p.one('!', node);
        }
        int deepest = node;
        refuses(p, "too deep", IllegalStateException.class, () -> p.one('!', deepest));
        due("the next number then", p.number(0), deepest + 1);
        for (int i = deepest + 2; i < 120; i++) {
            due("number " + i, p.number(i), i);
        }
        refuses(p, "full", IllegalStateException.class, () -> p.number(0));
        refuses(p, "full and too deep", IllegalStateException.class, () -> p.one('!', deepest));
        refuses(p, "wrong, when full", IllegalArgumentException.class, () -> p.one('!', 120));
        refuses(p, "no kind, when full", IllegalArgumentException.class, () -> p.none('x'));
        refuses(p, "wrong and too deep", IllegalArgumentException.class, () -> p.two('+', deepest, -1));
    }

    /** Promise 3: lines 0 to 19; the list that it had; its exceptions in order. */
    private static void lineRange() {
        Program p = busy();
        int halt = p.none('h');
        int list = p.list(halt);
        int more = p.list(halt, halt);
        int expressions = p.list(p.number(1));
        for (int line : new int[] {-1, 20, Integer.MIN_VALUE, Integer.MAX_VALUE}) {
            refuses(p, "line " + line, IllegalArgumentException.class, () -> p.x.line(line, list));
            refuses(p, "line first " + line, IllegalArgumentException.class, () -> p.x.line(line, halt));
            refuses(p, "line first with none " + line, IllegalArgumentException.class, () -> p.x.line(line, -1));
        }
        for (int line : new int[] {0, 4, 18, 19}) {
            due("line " + line + " had", p.x.line(line, list), -1);
            for (int wrong : new int[] {halt, expressions, -2, 119, 120, Integer.MIN_VALUE, Integer.MAX_VALUE}) {
                refuses(p, "node " + wrong, UnsupportedOperationException.class, () -> p.x.line(line, wrong));
            }
            due("line " + line + " has still", p.x.line(line, more), list);
            due("line " + line + " has more", p.x.line(line, -1), more);
            due("line " + line + " has none", p.x.line(line, -1), -1);
        }
    }

    /** Promise 3: "which frames in it go on with as it was" */
    private static void lineGoesOn() {
        Program p = new Program();
        int one = p.number(1);
        int a = p.show(p.text("a"));
        int b = p.show(p.text("b"));
        p.line(0, a, p.loop(0, one, one, p.number(3), 1), p.of('d', 2, 0, 0), p.show(p.call(3)), p.trap(4),
            p.show(p.naked(one)));
        p.line(1, a, a);
        p.line(2, a);
        p.line(3, p.one('q', p.text("a")));
        p.line(4, a);
        int job = p.x.job(0);
        p.x.run(job, 4);
        due("in the loop", p.shown(job), "aa");
        p.line(0, b, b);
        p.line(1, b);
        p.line(2, b);
        p.line(3, p.one('q', p.text("b")));
        p.line(4, b);
        p.x.run(job, 1);
        due("the frame of the loop's line goes on", p.shown(job), "aaa");
        p.x.run(job, 2);
        due("the next time it is the new one", p.shown(job), "aaab");
        p.x.run(job, 200);
        due("so are d, F and the trap", p.shown(job), "aaabbbbb");
        due("done", p.x.state(job), 'd');
    }

    /** Promise 4: lines 0 to 19, 3 jobs, the exceptions in order. */
    private static void jobLines() {
        Program p = new Program();
        p.line(0, p.none('e'));
        for (int line : new int[] {-1, 20, Integer.MIN_VALUE, Integer.MAX_VALUE}) {
            refuses(p, "line " + line, IllegalArgumentException.class, () -> p.x.job(line));
        }
        due("line 0", p.x.job(0), 0);
        due("line 19", p.x.job(19), 1);
        refuses(p, "line 20", IllegalArgumentException.class, () -> p.x.job(20));
        due("the third", p.x.job(0), 2);
        refuses(p, "the fourth", IllegalStateException.class, () -> p.x.job(0));
        refuses(p, "the fourth, an empty line", IllegalStateException.class, () -> p.x.job(19));
        refuses(p, "wrong first", IllegalArgumentException.class, () -> p.x.job(20));
        refuses(p, "wrong first, too small", IllegalArgumentException.class, () -> p.x.job(-1));
    }

    /** Promise 5: steps 1 to 200, the exceptions in order. */
    private static void runSteps() {
        Program p = new Program();
        int one = p.number(1);
        int job = p.job(p.loop(0, one, p.number(0), one, 19));
        for (int wrong : new int[] {-1, 0, 201, 202, Integer.MIN_VALUE, Integer.MAX_VALUE}) {
            refuses(p, "steps " + wrong, IllegalArgumentException.class, () -> p.x.run(job, wrong));
            refuses(p, "no job first " + wrong, IndexOutOfBoundsException.class, () -> p.x.run(1, wrong));
        }
        refuses(p, "job -1", IndexOutOfBoundsException.class, () -> p.x.run(-1, 1));
        refuses(p, "job 1", IndexOutOfBoundsException.class, () -> p.x.run(1, 1));
        int sum = 0;
        for (int steps : new int[] {1, 2, 199, 200}) {
            due("steps " + steps, p.x.run(job, steps), steps);
            sum += steps;
            due("in all", p.x.steps(job), sum);
        }
    }

    /** Promise 5: "as long as it is ready or waits"; "how many were made, tries too" */
    private static void runEnds() {
        for (int steps = 2; steps <= 5; steps++) {
            Program p = new Program();
            int one = p.number(1);
            int done = p.job(p.none('e'), p.none('e'), p.none('e'));
            due("run of a line of three", p.x.run(done, steps), Math.min(3, steps));
            due("state", p.x.state(done), steps < 3 ? 'r' : 'd');
            int failed = p.job(p.none('e'), p.none('e'), p.none('z'), p.none('e'));
            due("run to an error", p.x.run(failed, steps), Math.min(3, steps));
            due("state", p.x.state(failed), steps < 3 ? 'r' : 'e');
            due("none behind it", steps < 3 ? 0 : p.x.run(failed, steps), 0);
            due("steps of it", p.x.steps(failed), Math.min(3, steps));
            due("one", p.value(one), "1");
        }
        for (int steps = 1; steps <= 5; steps++) {
            Program p = new Program();
            p.ran(1, p.lock(-1, p.local(0)), p.none('e'));
            int job = p.job(p.lock(p.number(3), p.local(0)), p.none('e'));
            due("tries too", p.x.run(job, steps), Math.min(4, steps));
            due("state", p.x.state(job), steps < 3 ? 'w' : steps < 4 ? 'r' : 'd');
            due("steps", p.x.steps(job), Math.min(4, steps));
        }
    }

    /** Promises 5 to 22: "IndexOutOfBoundsException if there is no such job", ahead of all else. */
    private static void noJob() {
        for (int jobs = 0; jobs <= 3; jobs++) {
            Program p = new Program();
            int one = p.number(1);
            p.line(0, p.show(one));
            for (int i = 0; i < jobs; i++) {
                p.x.job(0);
            }
            for (int job : new int[] {-1, jobs, jobs + 1, 3, Integer.MIN_VALUE, Integer.MAX_VALUE}) {
                Check.Call[] calls = {() -> p.x.run(job, 0), () -> p.x.state(job), () -> p.x.error(job), () -> p.x.truth(job),
                    () -> p.x.depth(job), () -> p.x.steps(job), () -> p.x.output(job), () -> p.x.outputAt(job, -1),
                    () -> p.x.look(job, -1), () -> p.x.look(job, one), () -> p.x.lookError(job, 99), () -> p.x.locks(job),
                    () -> p.x.isDeadlocked(job), () -> p.x.waitsFor(job), () -> p.x.level(job), () -> p.x.restarts(job)};
                for (int i = 0; i < calls.length; i++) {
                    refuses(p, "call " + i + " of job " + job + " of " + jobs, IndexOutOfBoundsException.class, calls[i]);
                }
            }
            for (int job = 0; job < jobs; job++) {
                due("the first answers", "" + p.x.state(job) + p.x.truth(job) + p.x.depth(job) + p.x.steps(job)
                    + p.x.output(job) + p.x.locks(job) + p.x.isDeadlocked(job) + p.x.level(job) + p.x.restarts(job),
                    "r01000false00");
                int at = job;
                refuses(p, "no error", NoSuchElementException.class, () -> p.x.error(at));
                refuses(p, "no character", NoSuchElementException.class, () -> p.x.outputAt(at, 0));
                refuses(p, "waits not", UnsupportedOperationException.class, () -> p.x.waitsFor(at));
            }
        }
    }

    /** Promise 7: the last error, caught or not. */
    private static void errorLetters() {
        Program p = new Program();
        int one = p.number(1);
        int empty = p.text("");
        int most = p.text("999999999");
        p.line(1, p.none('z'));
        int[] wrong = {p.show(p.local(0, empty)), p.show(p.naked(one)), p.show(p.two('+', most, one)),
            p.show(p.two('/', one, empty)), p.show(p.of('P', one, empty, one)), p.none('z'), p.none('C'), p.show(p.call(2)),
            p.show(p.call(3)), p.show(p.call(4))};
        String letters = "snozpltqxy";
        p.line(3, p.none('h'));
        p.line(4, p.loop(0, one, p.number(0), one, 2));
        p.line(5, p.of('d', 5, 0, 0));
        int[] commands = new int[wrong.length * 2];
        for (int i = 0; i < wrong.length; i++) {
            p.line(6 + i, p.trap(i < 9 ? 7 + i : 5), wrong[i]);
        }
        int job = p.x.job(6);
        due("as many commands", commands.length, 20);
        Check.fails("none at first", NoSuchElementException.class, () -> p.x.error(job));
        for (int i = 0; i < wrong.length; i++) {
            p.x.run(job, 1);
            if (i > 0) {
                due("the one before", p.x.error(job), letters.charAt(i - 1));
            }
            p.x.run(job, 1);
            due("error " + i, p.x.error(job), letters.charAt(i));
            due("ready", p.x.state(job), 'r');
        }
        p.x.run(job, 200);
        due("frames", p.x.error(job), 'f');
        due("ended", p.x.state(job), 'e');
        int other = p.x.job(2);
        Check.fails("another job has none", NoSuchElementException.class, () -> p.x.error(other));
    }

    /** Promise 8: "the truth of a job, 0 at first" */
    private static void truths() {
        Program p = new Program();
        int job = p.job(p.one('i', p.number(5)), p.none('e'));
        due("at first", p.x.truth(job), 0);
        p.x.run(job, 1);
        due("1, not 5", p.x.truth(job), 1);
        p.x.run(job, 1);
        due("stays at the end", p.x.truth(job), 1);
        int other = p.ran(2, p.one('i', p.number(1)), p.one('i', p.number(0)), p.none('e'));
        due("0 again", p.x.truth(other), 0);
        p.x.crash();
        due("by a crash", p.x.truth(job) + p.x.truth(other), 1);
    }

    /** Promise 9: how many frames. */
    private static void depths() {
        Program p = new Program();
        p.line(0, p.of('d', 0, 0, 0), p.none('e'));
        int job = p.x.job(0);
        for (int depth = 1; depth <= 10; depth++) {
            due("frames", p.x.depth(job), depth);
            p.x.run(job, 1);
        }
        due("none by the error of the eleventh", p.x.depth(job), 0);
    }

    /** Promises 11 and 12: "the index, from 0"; "NoSuchElementException if there is none" */
    private static void outputIndexes() {
        for (int length = 0; length <= 3; length++) {
            Program p = new Program();
            int job = p.ran(1, p.show(p.letters(length)), p.none('e'));
            due("length", p.x.output(job), length);
            for (int index : new int[] {-1, 0, 1, 2, 3, 200, Integer.MIN_VALUE, Integer.MAX_VALUE}) {
                if (index >= 0 && index < length) {
                    due("character " + index, p.x.outputAt(job, index), (char) ('a' + index));
                } else {
                    refuses(p, "no character " + index, NoSuchElementException.class, () -> p.x.outputAt(job, index));
                }
                refuses(p, "no job first", IndexOutOfBoundsException.class, () -> p.x.outputAt(1, index));
            }
        }
    }

    /** Promises 13 to 15: the length, the characters and the number of what is kept. */
    private static void looks() {
        String[] texts = {"", "0", "a", "-7x", "999999999", "9999999999", "-"};
        int[] numbers = {0, 0, 0, -7, 999999999, 999999999, 0};
        Program p = new Program();
        int job = p.job();
        for (int i = 0; i < texts.length; i++) {
            due("length", p.x.look(job, p.text(texts[i])), texts[i].length());
            due("number", p.x.lookNumber(), numbers[i]);
            int length = texts[i].length();
            for (int index : new int[] {-1, length, length + 1, 40, Integer.MIN_VALUE, Integer.MAX_VALUE}) {
                refuses(p, "no character " + index, NoSuchElementException.class, () -> p.x.lookAt(index));
            }
            for (int index = 0; index < length; index++) {
                due("character", p.x.lookAt(index), texts[i].charAt(index));
            }
        }
        due("40 characters", p.x.look(job, p.letters(40)), 40);
        due("the last", p.x.lookAt(39), 'h');
        refuses(p, "the 41st", NoSuchElementException.class, () -> p.x.lookAt(40));
        Program q = new Program();
        int other = q.ran(1, q.set(q.local(0), q.text("ab")), q.set(q.local(0), q.text("cd")));
        q.x.look(other, q.local(0));
        q.x.run(other, 1);
        due("kept as it was", "" + q.x.lookAt(0) + q.x.lookAt(1), "ab");
    }

    /** Promises 13 and 16: which exception comes first, and that nothing changes. */
    private static void lookOrder() {
        Program p = busy();
        int one = p.number(1);
        int halt = p.none('h');
        int zero = p.two('/', one, p.number(0));
        int changing = p.two('/', p.two('I', p.local(0), one), p.number(0));
        for (int node : new int[] {-1, 119, 120, Integer.MAX_VALUE, Integer.MIN_VALUE, halt, p.list(one), p.list(halt), changing}) {
            refuses(p, "no expression " + node, IllegalArgumentException.class, () -> p.x.look(0, node));
            refuses(p, "no expression, error " + node, IllegalArgumentException.class, () -> p.x.lookError(0, node));
            refuses(p, "no job first " + node, IndexOutOfBoundsException.class, () -> p.x.look(3, node));
            refuses(p, "no job first, error " + node, IndexOutOfBoundsException.class, () -> p.x.lookError(-1, node));
        }
        refuses(p, "an error", UnsupportedOperationException.class, () -> p.x.look(0, zero));
        refuses(p, "an error for no job", IndexOutOfBoundsException.class, () -> p.x.look(3, zero));
        String before = p.all();
        due("a look for the error", p.x.lookError(0, zero), 'z');
        due("a look for no error", p.x.lookError(0, one), '-');
        due("changes nothing", p.all(), before);
    }

    /** Promise 13: "an expression without I and F .. as a part" */
    private static void lookWithout() {
        for (int way = 0; way < 2; way++) {
            Program p = new Program();
            int one = p.number(1);
            int local = p.local(0);
            int job = p.job();
            int part = way == 0 ? p.two('I', local, one) : p.call(0);
            int[] wholes = {part, p.two('+', part, one), p.two('_', one, part), p.one('!', part), p.of('S', part, one, one),
                p.of('S', one, part, one), p.of('S', one, one, part), p.local(1, part), p.global(1, one, part),
                p.naked(one, one, part), p.two('G', local, part), p.one('D', p.local(1, part)), p.one('Q', p.global(0, part)),
                p.two('O', p.local(0, part, one), 0), p.of('E', one, one, part), p.of('P', one, part, one),
                p.two('G', p.local(1, part), one), p.one('L', p.one('L', p.one('L', part)))};
            for (int whole : wholes) {
                Check.fails("look at a part", IllegalArgumentException.class, () -> p.x.look(job, whole));
                Check.fails("error of a part", IllegalArgumentException.class, () -> p.x.lookError(job, whole));
            }
            due("without it", p.x.look(job, p.two('G', local, one)), 1);
        }
        Program p = new Program();
        int one = p.number(1);
        p.line(0, p.show(p.two('I', p.local(0), one)));
        int job = p.job();
        due("I beside it is no part", p.x.look(job, p.two('+', one, one)), 1);
    }

    /** Promise 13: "as it sees all; nothing is remembered, and nothing counts as read" */
    private static void looksSee() {
        Program p = new Program();
        int one = p.number(1);
        int two = p.number(2);
        int node = p.global(0, one);
        int job = p.ran(4, p.set(p.local(0), p.text("l")), p.none('B'), p.set(p.global(1), p.text("m")),
            p.show(p.global(2, two, two)), p.none('C'), p.show(p.naked(one)));
        due("its locals", p.looked(job, p.local(0)), "l");
        due("its own change", p.looked(job, p.global(1)), "m");
        for (int look : new int[] {node, p.one('D', node), p.two('O', node, 0), p.one('Q', node), p.two('G', node, one)}) {
            p.x.look(job, look);
            due("no error", p.x.lookError(job, look), '-');
        }
        int other = p.ran(1, p.set(node, p.text("o")), p.none('e'));
        due("another job sees no change of it", p.looked(other, p.global(1)), "");
        due("nor its locals", p.looked(other, p.local(0)), "");
        due("as it began", p.looked(job, node), "");
        due("of now", p.looked(other, node), "o");
        p.x.run(job, 1);
        due("nothing counts as read", p.x.restarts(job), 0);
        due("written", p.x.written(), 2);
        int naked = p.naked(two);
        due("remembered as ahead of the looks", p.looked(job, p.one('D', naked)), "0");
        p.x.run(p.ran(1, p.set(p.global(2, two, two), one)), 1);
        due("as it is", p.looked(job, p.one('D', naked)), "1");
        Program q = new Program();
        int first = q.number(1);
        due("no reference of the look itself", q.value(q.two('_', q.global(0, first), q.naked(first))), "error n");
        due("nor of one ahead", q.value(q.naked(first)), "error n");
    }

    /** Promise 16: "the letter, '-' for none" */
    private static void lookErrors() {
        Program p = new Program();
        int one = p.number(1);
        int empty = p.text("");
        int job = p.job();
        int[] nodes = {one, p.two('/', one, empty), p.of('P', one, empty, one), p.local(0, empty), p.naked(one),
            p.two('+', p.text("999999999"), one), p.two('O', p.local(0), 0), p.none('T'), p.two('=', empty, empty)};
        String letters = "-zpsnos--";
        for (int i = 0; i < nodes.length; i++) {
            due("error of " + i, p.x.lookError(job, nodes[i]), letters.charAt(i));
            int node = nodes[i];
            if (letters.charAt(i) == '-') {
                due("length of " + i, p.x.look(job, node) <= 1, true);
            } else {
                refuses(p, "look at " + i, UnsupportedOperationException.class, () -> p.x.look(job, node));
            }
        }
    }

    /** Promise 17: "0 to 3"; "for those who are in no transaction" */
    private static void nodeCounts() {
        Program p = busy();
        for (int global : new int[] {-1, 4, 5, Integer.MIN_VALUE, Integer.MAX_VALUE}) {
            refuses(p, "nodes of " + global, IllegalArgumentException.class, () -> p.x.nodes(global));
        }
        due("nodes", "" + p.x.nodes(0) + p.x.nodes(1) + p.x.nodes(2) + p.x.nodes(3), "1000");
        Program q = new Program();
        int one = q.number(1);
        int job = q.job(q.set(q.global(3, one, one, one), one), q.set(q.global(3), q.text("")), q.set(q.global(3), one),
            q.set(q.global(3, one), one), q.one('k', q.global(3, one)), q.one('k', q.global(3)), q.none('e'));
        int[] due = {1, 2, 2, 3, 1, 0};
        for (int count : due) {
            q.x.run(job, 1);
            due("nodes with values", q.x.nodes(3), count);
        }
    }

    /** Promise 18: "each as often as it was in the list" */
    private static void lockCounts() {
        for (int count = 1; count <= 4; count++) {
            Program p = new Program();
            int[] names = new int[count];
            java.util.Arrays.fill(names, p.local(0));
            int job = p.ran(1, p.lock(-1, names), p.none('e'));
            due("as often", p.x.locks(job), count);
        }
        Program p = new Program();
        int list = -1;
        int name = p.local(0);
        for (int i = 0; i < 110; i++) {
            list = p.of(',', name, list, 0);
        }
        int lock = p.of('l', list, -1, 0);
        int job = p.ran(2, lock, lock, p.none('e'));
        due("as many as a list can have, twice", p.x.locks(job), 220);
    }

    /** Promise 20: "the jobs as bits"; "UnsupportedOperationException if it does not wait" */
    private static void waiting() {
        Program p = busy();
        due("job 1 waits for job 0", p.x.waitsFor(1), 1);
        refuses(p, "job 0 does not", UnsupportedOperationException.class, () -> p.x.waitsFor(0));
        refuses(p, "nor one that is over", UnsupportedOperationException.class, () -> p.x.waitsFor(2));
        refuses(p, "no job", IndexOutOfBoundsException.class, () -> p.x.waitsFor(3));
        due("no ring", p.x.isDeadlocked(0) || p.x.isDeadlocked(1) || p.x.isDeadlocked(2), false);
    }

    /** Promises 23 to 30 on an object that did something. */
    private static void storeCounts() {
        Program p = busy();
        due("written", p.x.written(), 0);
        due("journal", p.x.journal(), 1);
        due("lag", p.x.lag(), 1);
        due("not the same", p.x.isSame(), false);
        for (int changes : new int[] {-1, 0, 100, Integer.MIN_VALUE, Integer.MAX_VALUE}) {
            refuses(p, "follow " + changes, IllegalArgumentException.class, () -> p.x.follow(changes));
        }
        due("follow", p.x.follow(1), 1);
        due("follow more than there is", p.x.follow(99), 1);
        due("no lag", p.x.lag(), 0);
        due("the same", p.x.isSame(), true);
        due("image", p.x.image(), 1);
        due("a job ends within its transaction", p.x.run(0, 1) + p.x.written(), 1);
        due("nothing lost", p.x.crash(), 0);
        due("states", "" + p.x.state(0) + p.x.state(1) + p.x.state(2), "dxe");
    }

    private static long sum(long sum, int subscripts, String signs) {
        long all = 31 * sum + subscripts;
        for (char sign : signs.toCharArray()) {
            all = 31 * all + sign;
        }
        return all;
    }

    /** Promise 31: "7 at first, then for each global, and each node with a value, in order, 31 times itself plus .." */
    private static void sums() {
        Program p = new Program();
        int one = p.number(1);
        int ten = p.number(10);
        int job = p.job(p.set(p.global(3), p.text("")), p.set(p.global(0, ten), p.text("x")), p.set(p.global(0, one), p.number(-5)),
            p.set(p.global(0, one, p.text("a"), p.text("~")), p.text("z ")), p.one('k', p.global(0)), p.set(p.local(0), one),
            p.none('B'), p.set(p.global(1), one), p.none('R'), p.none('e'));
        due("at first", p.x.checksum(), 7L);
        p.x.run(job, 1);
        due("an empty value at a name", p.x.checksum(), 217L);
        p.x.run(job, 1);
        due("two globals", p.x.checksum(), sum(sum(7, 1, "10x"), 0, ""));
        p.x.run(job, 1);
        due("by their size", p.x.checksum(), sum(sum(sum(7, 1, "1-5"), 1, "10x"), 0, ""));
        p.x.run(job, 1);
        long all = sum(sum(sum(sum(7, 1, "1-5"), 3, "1a~z "), 1, "10x"), 0, "");
        due("three subscripts", p.x.checksum(), all);
        p.x.run(job, 1);
        due("a kill", p.x.checksum(), 217L);
        p.x.run(job, 3);
        due("no locals, no transactions", p.x.checksum(), 217L);
        Program q = new Program();
        int forty = q.letters(40);
        q.ran(1, q.set(q.global(2, forty, forty), forty));
        String signs = Program.lettersOf(40);
        due("beyond the greatest number", q.x.checksum(), sum(7, 2, signs + signs + signs));
    }

    /** Promise 32: "their number divided by that of all, both converted to float" */
    private static void shares() {
        for (int jobs = 1; jobs <= 3; jobs++) {
            for (int done = 0; done <= jobs; done++) {
                Program p = new Program();
                p.line(0, p.none('e'));
                for (int i = 0; i < jobs; i++) {
                    p.x.job(0);
                }
                for (int i = 0; i < done; i++) {
                    p.x.run(jobs - 1 - i, 1);
                }
                due("share of " + done + " of " + jobs, p.x.doneShare(), (float) done / (float) jobs);
                p.x.crash();
                due("those of a crash are none", p.x.doneShare(), (float) done / (float) jobs);
            }
        }
        Program p = new Program();
        p.ran(1, p.none('z'));
        due("nor those of an error", p.x.doneShare(), 0f);
        Program q = new Program();
        refuses(q, "no jobs", ArithmeticException.class, q.x::doneShare);
        refuses(q, "no jobs, mean", ArithmeticException.class, q.x::meanSteps);
    }

    /** Promise 33: "the sum divided by their number, both converted to double" */
    private static void means() {
        Program p = new Program();
        int one = p.number(1);
        int loop = p.loop(0, one, p.number(0), one, 19);
        int job = p.job(loop);
        due("none yet", p.x.meanSteps(), 0.0);
        p.x.run(job, 1);
        due("one of one", p.x.meanSteps(), 1.0);
        int other = p.job(loop);
        due("one of two", p.x.meanSteps(), 0.5);
        p.job();
        due("one of three", p.x.meanSteps(), 1.0 / 3.0);
        p.x.run(other, 200);
        due("201 of three", p.x.meanSteps(), 67.0);
        p.x.run(job, 199);
        due("400 of three", p.x.meanSteps(), 400.0 / 3.0);
        p.x.crash();
        due("behind a crash", p.x.meanSteps(), 400.0 / 3.0);
    }

    /** Promise 34: sound ahead of each step, whatever is flushed, imaged and crashed meanwhile. */
    private static void soundAlways() {
        for (int way = 0; way < 4; way++) {
            Program p = new Program();
            int one = p.number(1);
            int node = p.global(0, p.local(0));
            p.line(0, p.set(node, p.local(0)), p.none('B'), p.two('m', p.global(1, p.local(0)), p.global(0)), p.lock(one, node),
                p.none('C'), p.one('k', p.global(0, p.two('-', p.local(0), p.number(3)))), p.none('u'));
            int loop = p.loop(0, one, one, p.number(6), 0);
            int job = p.job(loop);
            int other = p.job(loop);
            for (int i = 0; i < 100; i++) {
                p.x.run(i % 3 == 0 ? other : job, 1);
                if (way == 1 && i % 7 == 0 || way == 2) {
                    p.x.flush();
                }
                if (way == 1 && i % 11 == 0 || way == 2 && i % 2 == 0) {
                    p.x.image();
                }
                if (way == 3 && i == 60) {
                    p.x.crash();
                }
                due("sound behind " + i + " by way " + way, p.x.isSound(), true);
            }
        }
    }

    /** "An object is used for at most 512 calls": the last ones answer as the first ones did. */
    private static void lastCall() {
        GlobalSpan x = new GlobalSpan();
        x.node('#', 1, 0, 0);
        x.node('g', 0, -1, 0);
        x.node('I', 1, 0, 0);
        x.node('v', 0, -1, 0);
        x.node('s', 3, 2, 0);
        x.node(',', 4, -1, 0);
        x.node(',', 0, -1, 0);
        x.node(',', 0, x.node(',', 0, 6, 0), 0);
        x.node('f', 1, 8, 0);
        x.line(0, 5);
        x.line(1, x.node(',', 9, -1, 0));
        x.job(1);
        for (int i = 0; i < 490; i++) {
            due("run", x.run(0, 2), i == 0 ? 2 : i == 1 ? 2 : 0);
        }
        due("the state", x.state(0), 'd');
        due("the sum", x.checksum(), 7L * 31 * 31 + '1');
        GlobalSpan y = new GlobalSpan();
        y.node('#', 0, 0, 0);
        y.node('#', 1, 0, 0);
        y.node(',', 1, -1, 0);
        y.node(',', 0, 2, 0);
        y.node(',', 1, 3, 0);
        y.node('f', 1, 4, 0);
        y.line(1, y.node(',', 5, -1, 0));
        int node = y.node('I', y.node('g', 0, -1, 0), 1, 0);
        y.line(0, y.node(',', y.node('o', node, 0, 0), -1, 0));
        y.job(1);
        for (int i = 0; i < 495; i++) {
            due("200 steps", y.run(0, 200), 200);
        }
        due("steps", y.steps(0), 99000);
        due("changes", y.written(), 49499);
        due("one node", y.nodes(0), 1);
        due("sound", y.isSound(), true);
        due("output", y.output(0), 200);
    }
}
