import java.util.NoSuchElementException;

/** Nodes, lines, jobs, commands, frames, errors, loops and calls: promises 1 to 12. */
public final class CommandTest {
    private CommandTest() {
    }

    public static void main(String[] args) {
        newObject();
        nodes();
        nodeDepth();
        lines();
        jobs();
        runs();
        outputs();
        conditions();
        frames();
        saves();
        errors();
        traps();
        loops();
        loopErrors();
        loopEnds();
        merges();
        calls();
        callErrors();
        callParts();
        callLimit();
        frameLimit();
        Check.finish("CommandTest");
    }

    private static void due(String what, Object got, Object due) {
        Check.same(what, got, due);
    }

    private static void newObject() {
        GlobalSpan x = new GlobalSpan();
        due("no changes", x.written() + x.journal() + x.lag() + x.nodes(0) + x.nodes(3) + x.lookNumber(), 0);
        due("checksum", x.checksum(), 7L);
        due("sound", x.isSound(), true);
        due("same", x.isSame(), true);
        Check.fails("no job", IndexOutOfBoundsException.class, () -> x.state(0));
        Check.fails("no job, error", IndexOutOfBoundsException.class, () -> x.error(0));
        Check.fails("no job, truth", IndexOutOfBoundsException.class, () -> x.truth(0));
        Check.fails("no job, depth", IndexOutOfBoundsException.class, () -> x.depth(-1));
        Check.fails("no job, steps", IndexOutOfBoundsException.class, () -> x.steps(0));
        Check.fails("no job, output", IndexOutOfBoundsException.class, () -> x.output(0));
        Check.fails("no job, outputAt", IndexOutOfBoundsException.class, () -> x.outputAt(0, -1));
        Check.fails("no job, run", IndexOutOfBoundsException.class, () -> x.run(0, 0));
        due("the first node", x.node('T', -5, 1000, -7), 0);
    }

    private static void fits(GlobalSpan x, String kinds, int a, int b, int c) {
        for (char kind : kinds.toCharArray()) {
            due("node " + kind + " " + a + " " + b + " " + c, x.node(kind, a, b, c) >= 0, true);
        }
    }

    private static void refused(GlobalSpan x, String kinds, int a, int b, int c) {
        for (char kind : kinds.toCharArray()) {
            Check.fails("node " + kind + " " + a + " " + b + " " + c, IllegalArgumentException.class,
                () -> x.node(kind, a, b, c));
        }
    }

    private static void nodes() {
        GlobalSpan x = new GlobalSpan();
        x.node('#', 999999, -1, -1);
        x.node('v', 7, -1, 0);
        x.node(',', 0, -1, 0);
        x.node('h', 0, 0, 0);
        x.node(',', 3, -1, 0);
        int references = x.node(',', 1, -1, 0);
        int three = x.node(',', 0, x.node(',', 0, 2, 0), 0);
        refused(x, "aAxyHKMW0 ;.", 0, 0, 0);
        refused(x, "", 0, 0, 0);
        refused(x, "#", 1000000, 0, 0);
        refused(x, "#", -1000000, 0, 0);
        fits(x, "#", -999999, 0, 0);
        fits(x, "t", 32, 126, 0);
        refused(x, "t", 31, 0, 0);
        refused(x, "t", 0, 127, 0);
        refused(x, "t", 0, 0, -1);
        refused(x, ",", 2, -1, 0);
        refused(x, ",", 0, 4, 0);
        refused(x, ",", 3, 2, 0);
        refused(x, ",", 0, 0, 0);
        refused(x, ",", 0, -2, 0);
        refused(x, ",", -1, -1, 0);
        refused(x, "vg", -1, -1, 0);
        refused(x, "v", 8, -1, 0);
        refused(x, "g", 4, -1, 0);
        refused(x, "vg", 0, 4, 0);
        refused(x, "vg", 0, 0, 0);
        refused(x, "vg", 0, -2, 0);
        fits(x, "vg", 3, 2, 0);
        fits(x, "n", 2, 0, 0);
        refused(x, "n", -1, 0, 0);
        refused(x, "n", 4, 0, 0);
        fits(x, "+-*/%_=<>[]&|", 0, 1, -9);
        refused(x, "+-*/%_=<>[]&|", 0, 2, 0);
        refused(x, "+-*/%_=<>[]&|", 3, 0, 0);
        refused(x, "+-*/%_=<>[]&|", 0, 120, 0);
        fits(x, "!Lio", 0, -9, 99);
        refused(x, "!Lio", 3, 0, 0);
        fits(x, "DOQk", 1, 0, 0);
        refused(x, "DOQk", 0, 0, 0);
        fits(x, "GIs", 1, 0, 0);
        refused(x, "GIs", 0, 0, 0);
        refused(x, "GIs", 1, 2, 0);
        fits(x, "EPS", 0, 0, 1);
        refused(x, "EPS", 0, 0, 3);
        fits(x, "F", 19, -1, 0);
        fits(x, "F", 0, 2, 0);
        refused(x, "F", 20, -1, 0);
        refused(x, "F", 0, 0, 0);
        fits(x, "TezhuBCR", -9, -9, -9);
        fits(x, "m", 1, 1, 0);
        refused(x, "m", 1, 0, 0);
        fits(x, "c", 0, 3, 0);
        refused(x, "c", 0, 0, 0);
        refused(x, "c", 0, 4, 0);
        fits(x, "dr", 19, 0, 0);
        refused(x, "dr", 20, 0, 0);
        refused(x, "d", -1, 0, 0);
        fits(x, "rq", -1, 0, 0);
        refused(x, "rq", -2, 0, 0);
        refused(x, "q", 2, 0, 0);
        fits(x, "f", 7, three, 19);
        refused(x, "f", 8, three, 0);
        refused(x, "f", 0, three, 20);
        refused(x, "f", 0, 2, 0);
        refused(x, "f", 0, x.node(',', 0, three, 0), 0);
        refused(x, "w", 0, 0, 0);
        refused(x, "w", 256, 0, 0);
        fits(x, "w", 255, 0, 0);
        fits(x, "l", references, -1, 0);
        fits(x, "l", references, 0, 0);
        refused(x, "l", 2, -1, 0);
        refused(x, "l", x.node(',', 0, references, 0), -1, 0);
        refused(x, "l", references, -2, 0);
        refused(x, "l", references, 2, 0);
        int count = x.node('T', 0, 0, 0);
        while (count < 119) {
            count = x.node('T', 0, 0, 0);
        }
        due("the last node", count, 119);
        Check.fails("the 121st node", IllegalStateException.class, () -> x.node('T', 0, 0, 0));
        Check.fails("a wrong one first", IllegalArgumentException.class, () -> x.node('+', 0, 120, 0));
    }

    private static void nodeDepth() {
        Program p = new Program();
        int node = p.number(1);
        int list = p.list(node);
        for (int i = 2; i <= 12; i++) {
            node = p.one('!', node);
            list = p.of(',', p.number(1), list, 0);
        }
        int deepest = node;
        Check.fails("depth 13", IllegalStateException.class, () -> p.one('!', deepest));
        Check.fails("a list of depth 13", IllegalStateException.class, () -> p.list(deepest));
        int local = p.local(0);
        Check.fails("a command of depth 13", IllegalStateException.class, () -> p.set(local, deepest));
        Check.fails("depth 13 by c", IllegalStateException.class, () -> p.of('S', local, local, deepest));
        Check.fails("a wrong one of depth 13", IllegalArgumentException.class, () -> p.of('+', deepest, 119, 0));
        due("a long list is not deep", p.of('n', list, 0, 0) > 0, true);
        int flat = p.of('n', list, 0, 0);
        for (int i = 4; i <= 12; i++) {
            flat = p.one('!', flat);
        }
        int end = flat;
        Check.fails("a list has the depth of its parts and 1", IllegalStateException.class, () -> p.one('!', end));
        due("operands without meaning do not count", p.of('T', deepest, deepest, deepest) > 0, true);
    }

    private static void lines() {
        Program p = new Program();
        int command = p.none('h');
        int list = p.list(command);
        int expressions = p.list(p.number(1));
        due("a new line", p.x.line(0, list), -1);
        due("the list that it had", p.x.line(0, -1), list);
        due("none again", p.x.line(0, list), -1);
        Check.fails("line -1", IllegalArgumentException.class, () -> p.x.line(-1, -5));
        Check.fails("line 20", IllegalArgumentException.class, () -> p.x.line(20, list));
        Check.fails("a command alone", UnsupportedOperationException.class, () -> p.x.line(0, command));
        Check.fails("expressions", UnsupportedOperationException.class, () -> p.x.line(0, expressions));
        Check.fails("node -2", UnsupportedOperationException.class, () -> p.x.line(19, -2));
        Check.fails("no node", UnsupportedOperationException.class, () -> p.x.line(19, 99));
        due("nothing changed", p.x.line(0, -1), list);
        p.line(1, p.show(p.number(1)), p.show(p.number(2)), p.of('d', 2, 0, 0), p.show(p.number(3)));
        p.line(2, p.show(p.number(7)));
        int job = p.x.job(1);
        p.x.run(job, 1);
        p.x.line(1, -1);
        p.line(2, p.show(p.number(8)));
        p.x.run(job, 9);
        due("frames go on with the line as it was", p.shown(job), "1283");
    }

    private static void jobs() {
        Program p = new Program();
        p.line(1, p.none('h'));
        Check.fails("doneShare without jobs", ArithmeticException.class, () -> p.x.doneShare());
        Check.fails("meanSteps without jobs", ArithmeticException.class, () -> p.x.meanSteps());
        Check.fails("line -1", IllegalArgumentException.class, () -> p.x.job(-1));
        Check.fails("line 20", IllegalArgumentException.class, () -> p.x.job(20));
        due("first", p.x.job(0), 0);
        due("done at once", p.x.state(0), 'd');
        due("no frames", p.x.depth(0), 0);
        due("no steps", p.x.run(0, 5), 0);
        due("second", p.x.job(1), 1);
        due("ready", p.x.state(1), 'r');
        due("a frame", p.x.depth(1), 1);
        due("truth at first", p.x.truth(1), 0);
        due("share", p.x.doneShare(), 0.5f);
        due("third", p.x.job(1), 2);
        p.x.run(1, 5);
        due("share of three", p.x.doneShare(), 2f / 3f);
        due("mean", p.x.meanSteps(), 1.0 / 3.0);
        Check.fails("fourth", IllegalStateException.class, () -> p.x.job(0));
        Check.fails("wrong line first", IllegalArgumentException.class, () -> p.x.job(20));
    }

    private static void runs() {
        Program p = new Program();
        int command = p.set(p.local(0), p.number(1));
        p.line(0, command, command, command);
        int job = p.x.job(0);
        Check.fails("no job first", IndexOutOfBoundsException.class, () -> p.x.run(1, 0));
        Check.fails("0 steps", IllegalArgumentException.class, () -> p.x.run(job, 0));
        Check.fails("201 steps", IllegalArgumentException.class, () -> p.x.run(job, 201));
        due("two", p.x.run(job, 2), 2);
        due("ready", p.x.state(job), 'r');
        due("the last", p.x.run(job, 200), 1);
        due("done", p.x.state(job), 'd');
        due("steps", p.x.steps(job), 3);
        due("locals stay", p.looked(job, p.local(0)), "1");
        Check.fails("no error", NoSuchElementException.class, () -> p.x.error(job));
    }

    private static void outputs() {
        Program p = new Program();
        int ten = p.text("abcdefghij");
        int thirty = p.two('_', ten, p.two('_', ten, ten));
        int show = p.show(thirty);
        p.line(0, p.show(p.number(-7)), show, show, show, show, show, show, show);
        int job = p.x.job(0);
        p.x.run(job, 1);
        due("two characters", p.x.output(job), 2);
        due("the first", p.x.outputAt(job, 0), '-');
        Check.fails("the third", NoSuchElementException.class, () -> p.x.outputAt(job, 2));
        Check.fails("-1", NoSuchElementException.class, () -> p.x.outputAt(job, -1));
        Check.fails("no job", IndexOutOfBoundsException.class, () -> p.x.outputAt(1, 0));
        p.x.run(job, 20);
        due("200 characters", p.x.output(job), 200);
        due("the last one", p.x.outputAt(job, 199), 'h');
    }

    private static void conditions() {
        Program p = new Program();
        int yes = p.number(-2);
        int no = p.text("x");
        int a = p.show(p.text("a"));
        int b = p.show(p.text("b"));
        p.line(0, p.one('i', yes), a, p.two('c', no, b), p.two('c', yes, p.two('c', yes, b)), p.of('d', 1, 0, 0),
            p.none('e'), a, p.one('i', yes), p.none('e'), b);
        p.line(1, p.one('i', no), a);
        int job = p.x.job(0);
        due("c and its command are one step", p.x.run(job, 4), 4);
        due("shown", p.shown(job), "ab");
        due("truth", p.x.truth(job), 1);
        p.x.run(job, 2);
        due("i ends a line", p.x.depth(job), 1);
        due("truth of no", p.x.truth(job), 0);
        due("e goes on, then leaves out", p.x.run(job, 9), 4);
        due("all", p.shown(job), "aba");
        due("done", p.x.state(job), 'd');
    }

    private static void frames() {
        Program p = new Program();
        p.line(0, p.of('d', 1, 0, 0), p.show(p.text("c")), p.of('d', 5, 0, 0), p.of('d', 3, 0, 0),
            p.show(p.text("e")));
        p.line(1, p.show(p.text("a")), p.of('d', 2, 0, 0));
        p.line(2, p.show(p.text("b")), p.one('q', -1), p.show(p.text("x")));
        p.line(3, p.of('d', 4, 0, 0), p.show(p.text("y")));
        p.line(4, p.none('h'));
        int job = p.x.job(0);
        p.x.run(job, 1);
        due("two frames", p.x.depth(job), 2);
        p.x.run(job, 2);
        due("three frames", p.x.depth(job), 3);
        p.x.run(job, 2);
        due("q and the end of lines", p.x.depth(job), 1);
        p.x.run(job, 2);
        due("an empty line", p.x.depth(job), 1);
        due("to the end", p.x.run(job, 9), 3);
        due("h ends all", p.x.depth(job), 0);
        due("h makes it done", p.x.state(job), 'd');
        due("shown", p.shown(job), "abc");
    }

    private static void saves() {
        Program p = new Program();
        int zero = p.local(0);
        int one = p.local(1, p.number(5));
        p.line(0, p.set(zero, p.number(1)), p.set(one, p.number(2)), p.of('d', 1, 0, 0), p.one('w', 2),
            p.set(p.local(1), p.number(9)), p.none('h'));
        p.line(1, p.one('w', 3), p.set(zero, p.number(7)), p.set(p.local(2), p.number(4)), p.one('w', 1),
            p.set(p.local(0, p.number(1)), p.number(8)));
        int job = p.x.job(0);
        p.x.run(job, 4);
        due("no values then", p.looked(job, zero) + p.looked(job, one) + p.looked(job, p.one('D', p.local(1))), "0");
        p.x.run(job, 2);
        due("others stay", p.looked(job, p.local(2)), "4");
        p.x.run(job, 1);
        due("saved again", p.looked(job, p.one('D', zero)), "0");
        p.x.run(job, 1);
        due("as they were", p.looked(job, zero) + p.looked(job, one), "12");
        due("nothing is left of it", p.looked(job, p.one('D', zero)), "1");
        due("those behind them stay", p.looked(job, p.local(2)), "4");
        p.x.run(job, 2);
        due("the last frame", p.looked(job, p.local(1)), "9");
        p.x.run(job, 1);
        due("h brings back", p.looked(job, p.local(1)) + p.looked(job, one), "2");
        due("done", p.x.state(job), 'd');
    }

    private static void errors() {
        Program p = new Program();
        int error = p.two('/', p.number(1), p.number(0));
        p.line(0, p.one('w', 1), p.set(p.local(0), p.number(3)), p.of('d', 1, 0, 0), p.show(p.text("x")));
        p.line(1, p.set(p.local(0), error), p.show(p.text("y")));
        int job = p.x.job(0);
        p.x.run(job, 3);
        due("two frames", p.x.depth(job), 2);
        due("the step of the error", p.x.run(job, 5), 1);
        due("ended", p.x.state(job), 'e');
        due("letter", p.x.error(job), 'z');
        due("no frames", p.x.depth(job), 0);
        due("locals as they were", p.looked(job, p.one('D', p.local(0))), "0");
        due("nothing shown", p.x.output(job), 0);
        due("steps", p.x.steps(job), 4);
        due("no share", p.x.doneShare(), 0f);
    }

    private static void traps() {
        Program p = new Program();
        int error = p.show(p.two('/', p.number(1), p.number(0)));
        int naked = p.show(p.naked(p.number(1)));
        p.line(0, p.trap(2), p.of('d', 1, 0, 0), p.show(p.text("x")));
        p.line(1, p.trap(3), p.trap(-1), p.one('w', 1), p.set(p.local(0), p.number(1)), error);
        p.line(2, p.show(p.text("a")), p.trap(4), naked, p.show(p.text("y")));
        p.line(4, p.show(p.local(0)), error, p.show(p.text("z")));
        int job = p.x.job(0);
        p.x.run(job, 7);
        due("the frame with the trap", p.x.depth(job), 1);
        due("the error", p.x.error(job), 'z');
        due("ready", p.x.state(job), 'r');
        p.x.run(job, 3);
        due("the last error", p.x.error(job), 'n');
        due("shown", p.shown(job), "a");
        p.x.run(job, 5);
        due("a trap is gone", p.x.state(job), 'e');
        due("the very last error", p.x.error(job), 'z');
        due("shown, the local being gone", p.shown(job), "a");
        Program q = new Program();
        q.line(0, q.trap(7), q.show(q.naked(q.number(1))), q.show(q.number(1)));
        int other = q.x.job(0);
        due("an empty trap ends the frame", q.x.run(other, 5), 2);
        due("and the job is done", q.x.state(other), 'd');
        due("with an error once", q.x.error(other), 'n');
    }

    private static void loops() {
        Program p = new Program();
        int one = p.number(1);
        int i = p.local(3);
        p.line(0, p.loop(3, one, one, p.number(3), 1), p.show(p.text("-")), p.loop(3, p.number(3), p.number(-2),
            p.number(-1), 1), p.show(p.text("-")), p.loop(3, p.number(2), p.number(0), one, 1), p.show(i));
        p.line(1, p.show(i));
        int job = p.x.job(0);
        p.x.run(job, 1);
        due("the parts are a step", p.looked(job, i), "1");
        due("without a frame", p.x.depth(job), 1);
        p.x.run(job, 1);
        due("begun", p.x.depth(job), 2);
        p.x.run(job, 1);
        due("shown", p.shown(job), "1");
        due("ended", p.x.depth(job), 1);
        due("not stepped yet", p.looked(job, i), "1");
        p.x.run(job, 1);
        due("stepped", p.looked(job, i), "2");
        p.x.run(job, 3);
        due("three times", p.shown(job), "123");
        p.x.run(job, 1);
        due("one step more as it ends", p.looked(job, i), "4");
        p.x.run(job, 1);
        due("behind it", p.shown(job), "123-");
        p.x.run(job, 1 + 6 + 1 + 1);
        due("downwards", p.shown(job), "123-31-1-");
        p.x.run(job, 3);
        due("not at all", p.shown(job), "123-31-1-2");
        due("steps in all", p.x.steps(job), 1 + 6 + 1 + 1 + 1 + 6 + 1 + 1 + 2 + 1);
        due("done", p.x.state(job), 'd');
    }

    private static void loopErrors() {
        Program p = new Program();
        int one = p.number(1);
        int big = p.text("999999999");
        p.line(0, p.trap(2), p.loop(0, big, one, big, 9), p.show(one));
        p.line(2, p.trap(3), p.loop(0, one, p.two('/', one, p.number(0)), one, 9));
        p.line(3, p.set(p.local(5), p.number(7)), p.loop(5, one, one, big, 4), p.show(p.local(5)));
        p.line(4, p.one('k', p.local(5)), p.two('c', p.two('=', p.local(6), one), p.set(p.local(5), big)),
            p.set(p.local(6), p.two('+', p.local(6), one)));
        int job = p.x.job(0);
        p.x.run(job, 3);
        due("an empty line ends at once", p.x.depth(job), 1);
        due("the local", p.looked(job, p.local(0)), "999999999");
        p.x.run(job, 1);
        due("too much", p.x.error(job), 'o');
        due("the local is as it was", p.looked(job, p.local(0)), "999999999");
        due("a step of its own", p.x.steps(job), 4);
        p.x.run(job, 2);
        due("an error in a part", p.x.error(job), 'z');
        due("gives nothing", p.looked(job, p.local(0)), "999999999");
        p.x.run(job, 2 + 4 + 1);
        due("a killed local counts 0", p.looked(job, p.local(5)), "1");
        p.x.run(job, 4);
        due("the end is by what the local has", p.x.error(job), 'o');
        due("ended", p.x.state(job), 'e');
    }

    private static void loopEnds() {
        Program p = new Program();
        int one = p.number(1);
        int i = p.local(0);
        p.line(0, p.loop(0, one, one, p.number(9), 1), p.show(p.text("!")), p.none('z'));
        p.line(1, p.one('w', 2), p.set(p.local(1), one), p.show(i), p.of('d', 2, 0, 0), p.show(p.text("x")));
        p.line(2, p.two('c', p.two('=', i, p.number(2)), p.none('z')), p.one('q', -1), p.show(p.text("y")));
        int job = p.x.job(0);
        p.x.run(job, 6);
        due("within", p.x.depth(job), 3);
        p.x.run(job, 9);
        due("z ended it", p.x.depth(job), 1);
        due("shown", p.shown(job), "1x2");
        due("saved ones are back", p.looked(job, p.one('D', p.local(1))), "0");
        p.x.run(job, 1);
        due("behind the loop", p.shown(job), "1x2!");
        p.x.run(job, 1);
        due("no loop", p.x.error(job), 'l');
        due("ended", p.x.state(job), 'e');
        Program q = new Program();
        int call = q.show(q.call(2));
        q.line(0, q.loop(0, one(q), q.number(1), q.number(3), 1), q.show(q.text("!")));
        q.line(1, call);
        q.line(2, q.trap(3), q.none('z'));
        q.line(3, q.one('q', q.text("l")));
        int other = q.x.job(0);
        q.x.run(other, 30);
        due("loops outside of a call", q.x.error(other), 'l');
        due("do not count in it", q.shown(other), "lll!");
    }

    private static int one(Program p) {
        return p.number(1);
    }

    private static void merges() {
        Program p = new Program();
        int one = p.number(1);
        int two = p.number(2);
        int from = p.local(0);
        int to = p.local(1, two);
        p.line(0, p.set(from, p.text("a")), p.set(p.local(0, one), p.text("b")),
            p.set(p.local(0, one, two, one), p.text("c")), p.set(p.local(1, two, two), p.text("old")),
            p.two('m', to, from), p.two('m', p.local(0, one), from), p.two('m', from, p.local(0, one)),
            p.two('m', p.global(0, one), from), p.two('m', p.global(0, one), p.local(0, one)));
        int job = p.x.job(0);
        p.x.run(job, 5);
        due("its value", p.looked(job, to), "a");
        due("below", p.looked(job, p.local(1, two, one)), "b");
        due("what was there", p.looked(job, p.local(1, two, two)), "old");
        due("rows of more than 3", p.looked(job, p.one('D', p.local(1, two, one, two))), "0");
        p.x.run(job, 1);
        due("into itself", p.looked(job, p.local(0, one)), "a");
        due("as it was ahead of that", p.looked(job, p.local(0, one, one)), "b");
        due("no more than that", p.looked(job, p.one('D', p.local(0, one, one, one))), "0");
        due("what is left out", p.looked(job, p.one('D', p.local(0, one, two))), "10");
        p.x.run(job, 1);
        due("into what is above", p.looked(job, from) + p.looked(job, p.local(0, one))
            + p.looked(job, p.local(0, two, one)), "abc");
        p.x.run(job, 1);
        due("nodes of the global", p.x.nodes(0), 4);
        due("changes", p.x.written(), 4);
        p.x.run(job, 1);
        due("each value is a change", p.x.written(), 4 + 3);
        due("an order of values", p.looked(job, p.one('Q', p.global(0, one))), "1,1");
    }

    private static void calls() {
        Program p = new Program();
        int one = p.number(1);
        int two = p.number(2);
        int empty = p.text("");
        int[] nine = {one, two, empty, one, one, one, one, p.number(8), p.number(9)};
        p.line(0, p.set(p.local(0), p.number(5)), p.set(p.local(7, one), two), p.show(p.call(1, two, one)),
            p.show(p.call(2, nine)), p.show(p.call(4, p.number(6))), p.show(p.two('+', p.local(0), p.none('T'))));
        p.line(1, p.one('q', p.two('-', p.local(0), p.local(1))));
        p.line(2, p.of('d', 3, 0, 0), p.set(p.local(3), p.one('D', p.local(2))),
            p.one('q', p.two('_', p.local(3), p.two('_', p.local(7), p.one('D', p.local(7))))));
        p.line(3, p.one('q', p.text("lost")));
        p.line(4, p.two('c', p.two('<', p.local(0), two), p.one('q', one)), p.one('i', one),
            p.one('q', p.two('*', p.local(0), p.call(4, p.two('-', p.local(0), one)))));
        int job = p.x.job(0);
        p.x.run(job, 3);
        due("a call", p.shown(job), "1");
        due("is one step", p.x.steps(job), 3);
        due("locals come back", p.looked(job, p.local(0)) + p.looked(job, p.local(7, one)), "52");
        p.x.run(job, 1);
        due("empty parts are values, the ninth is left out", p.shown(job), "1181");
        p.x.run(job, 1);
        due("calls within calls", p.shown(job), "1181720");
        p.x.run(job, 1);
        due("the truth is that of the job", p.shown(job), "11817206");
        due("done", p.x.state(job), 'd');
    }

    private static void callErrors() {
        Program p = new Program();
        int one = p.number(1);
        int empty = p.call(9);
        p.line(0, p.trap(1), p.show(empty));
        p.line(1, p.trap(2), p.show(p.call(10, p.number(3))));
        p.line(2, p.trap(3), p.show(p.call(11)), p.show(p.text(",")), p.show(p.call(12)));
        p.line(3, p.trap(4), p.show(p.call(14)));
        p.line(4, p.trap(5), p.show(p.call(15)));
        p.line(5, p.trap(6), p.show(p.call(16)));
        p.line(6, p.show(p.call(17, p.two('/', one, p.number(0)))));
        p.line(10, p.set(p.local(0), one), p.one('q', -1));
        p.line(11, p.trap(13), p.of('d', 12, 0, 0));
        p.line(12, p.show(p.naked(one)));
        p.line(13, p.one('q', p.text("caught")));
        p.line(14, p.none('B'));
        p.line(15, p.none('u'));
        p.line(16, p.lock(-1, p.local(0)));
        p.line(17, p.none('h'));
        int job = p.x.job(0);
        p.x.run(job, 2);
        due("nothing given by an empty line", p.x.error(job), 'q');
        p.x.run(job, 2);
        due("nothing given by q", p.x.error(job), 'q');
        p.x.run(job, 3);
        due("caught in the call", p.shown(job), "caught,");
        due("but it was an error", p.x.error(job), 'n');
        due("still one frame", p.x.depth(job), 1);
        p.x.run(job, 1);
        due("not caught in the call", p.x.error(job), 'n');
        char[] letters = {'x', 'x', 'x'};
        for (char letter : letters) {
            p.x.run(job, 2);
            due("not within a call", p.x.error(job), letter);
        }
        due("its state", p.x.state(job), 'r');
        p.x.run(job, 2);
        due("parts are done ahead of the call", p.x.error(job), 'z');
        due("ended", p.x.state(job), 'e');
        Program q = new Program();
        q.line(0, q.trap(3), q.show(q.call(1)));
        q.line(1, q.none('h'));
        q.line(3, q.trap(4), q.show(q.call(2)));
        q.line(2, q.none('C'));
        q.line(4, q.trap(6), q.show(q.call(5)));
        q.line(5, q.none('R'));
        int other = q.x.job(0);
        for (int i = 0; i < 3; i++) {
            q.x.run(other, 2);
            due("h, C and R within a call", q.x.error(other), 'x');
        }
    }

    /** Calls as parts of calls, in a loop, as often as parts that were kept would not fit any more. */
    private static void callParts() {
        Program p = new Program();
        int one = p.number(1);
        int i = p.local(0);
        int inner = p.call(2, i, i, i, i, i, i, i, i);
        p.line(0, p.loop(0, one, one, p.number(80), 1), p.show(p.local(1)));
        p.line(1, p.set(p.local(1), p.two('+', p.call(2, inner, p.call(2, i, i), i, i, i, i, i, p.local(1)), one)));
        p.line(2, p.one('q', p.local(7)));
        int job = p.x.job(0);
        for (int call = 0; call < 3; call++) {
            p.x.run(job, 200);
        }
        due("the eighth part each time", p.shown(job), "80");
        int error = p.call(2, i, i, i, i, i, i, i, p.two('/', one, p.local(3)));
        p.line(3, p.loop(0, one, one, p.number(90), 4), p.show(p.local(1)), p.show(inner));
        p.line(4, p.trap(5), p.show(error));
        p.line(5, p.set(p.local(1), p.two('+', p.local(1), one)));
        int other = p.x.job(3);
        for (int call = 0; call < 3; call++) {
            p.x.run(other, 200);
        }
        due("parts of calls that were errors are gone", p.shown(other), "9091");
    }

    /** A call of which the line does a loop from 1 to a number, with one command each, and a q. */
    private static Program looping(int last) {
        Program p = new Program();
        int one = p.number(1);
        p.line(0, p.trap(3), p.show(p.call(1)), p.show(p.text("!")));
        p.line(1, p.trap(4), p.loop(0, one, one, p.number(last), 2), p.one('q', p.local(0)));
        p.line(2, p.set(p.local(1), p.local(0)));
        p.line(3, p.show(p.text("trap")));
        p.line(4, p.one('q', p.text("not here")));
        return p;
    }

    private static void callLimit() {
        // r, f, a begin and a command for each time, the end of the loop, q: 2 + 2 n + 2
        Program most = looping(98);
        int job = most.x.job(0);
        most.x.run(job, 9);
        due("200 commands", most.shown(job), "99!");
        Program more = looping(99);
        int other = more.x.job(0);
        more.x.run(other, 9);
        due("201 commands", more.x.error(other), 'y');
        due("traps of the call or not", more.shown(other), "trap");
        Program p = looping(98);
        p.line(5, p.one('q', p.call(1)));
        p.line(6, p.trap(7), p.show(p.call(1)), p.show(p.call(1)), p.show(p.call(5)));
        p.line(7, p.show(p.x.node('T', 0, 0, 0)));
        int third = p.x.job(6);
        p.x.run(third, 3);
        due("each call has its own count", p.shown(third), "9999");
        p.x.run(third, 5);
        due("calls within count", p.x.error(third), 'y');
        due("the trap of the job", p.shown(third), "99990");
        due("done", p.x.state(third), 'd');
        Program endless = looping(98);
        int one = endless.number(1);
        endless.line(8, endless.loop(0, one, endless.number(0), one, 19));
        endless.line(9, endless.show(endless.call(8)));
        int last = endless.x.job(9);
        endless.x.run(last, 1);
        due("a loop without end", endless.x.error(last), 'y');
    }

    private static void frameLimit() {
        Program p = new Program();
        p.line(0, p.of('d', 0, 0, 0), p.show(p.x.node('T', 0, 0, 0)));
        int job = p.x.job(0);
        p.x.run(job, 9);
        due("ten frames", p.x.depth(job), 10);
        p.x.run(job, 1);
        due("no more", p.x.error(job), 'f');
        due("ended", p.x.state(job), 'e');
        Program q = new Program();
        int deeper = q.call(1, q.two('+', q.local(0), q.number(1)));
        q.line(0, q.trap(2), q.show(deeper));
        q.line(1, q.set(q.global(0), q.local(0)), q.one('q', deeper));
        q.line(2, q.show(q.global(0)), q.trap(3), q.loop(1, q.number(1), q.number(1), q.number(1), 4));
        q.line(4, q.show(q.text("-")), q.of('d', 4, 0, 0));
        int other = q.x.job(0);
        q.x.run(other, 2);
        due("calls are frames", q.x.error(other), 'f');
        q.x.run(other, 40);
        due("nine calls, nine lines", q.shown(other), "9---------");
        due("done by the trap", q.x.state(other), 'd');
    }
}
