import java.util.NoSuchElementException;

/** Globals, locks, transactions, the store and the figures: promises 17 to 34. */
public final class SharedTest {
    private SharedTest() {
    }

    public static void main(String[] args) {
        globals();
        lockNames();
        lockReferences();
        lockTries();
        lockEnds();
        rings();
        nested();
        rollBack();
        isolation();
        restart();
        restartFrames();
        restartLoops();
        timesOfEach();
        fourthTime();
        whatIsRead();
        whatIsNotRead();
        around();
        endedJobs();
        journal();
        crashes();
        replica();
        sums();
        Check.finish("SharedTest");
    }

    private static void due(String what, Object got, Object due) {
        Check.same(what, got, due);
    }

    private static void globals() {
        Program p = new Program();
        int one = p.number(1);
        p.line(0, p.set(p.global(3), one), p.set(p.global(3, one), p.text("")), p.set(p.global(2, one, one), one),
            p.one('k', p.global(3)));
        p.line(1, p.show(p.global(3)), p.set(p.local(0), one));
        int job = p.x.job(0);
        int other = p.x.job(1);
        p.x.run(job, 3);
        due("values", p.x.nodes(3), 2);
        due("of another global", p.x.nodes(2), 1);
        p.x.run(other, 5);
        due("shared", p.shown(other), "1");
        due("locals are not", p.looked(job, p.local(0)), "");
        p.x.run(job, 1);
        due("killed", p.x.nodes(3), 0);
        Check.fails("global -1", IllegalArgumentException.class, () -> p.x.nodes(-1));
        Check.fails("global 4", IllegalArgumentException.class, () -> p.x.nodes(4));
    }

    private static void lockNames() {
        Program p = new Program();
        int one = p.number(1);
        int two = p.number(2);
        int held = p.global(0, one, two);
        p.line(0, p.lock(-1, held, p.local(1, one), held), p.show(one), p.none('u'), p.show(one));
        int[] names = {p.global(0), p.global(0, one), p.global(0, one, two), p.global(0, one, two, one),
            p.global(0, two), p.global(0, one, one), p.global(1), p.local(1), p.local(1, one, one), p.local(0),
            p.local(1, two)};
        String due = "00001110011";
        StringBuilder got = new StringBuilder();
        int[] commands = new int[2 * names.length];
        for (int i = 0; i < names.length; i++) {
            commands[2 * i] = p.lock(one, names[i]);
            commands[2 * i + 1] = p.none('u');
        }
        p.line(1, commands);
        int job = p.x.job(0);
        int other = p.x.job(1);
        p.x.run(job, 1);
        due("names, each as often as told", p.x.locks(job), 3);
        for (int i = 0; i < names.length; i++) {
            p.x.run(other, 1);
            got.append(p.x.truth(other));
            due("names of " + i, p.x.locks(other), p.x.truth(other));
            p.x.run(other, 1);
            due("given up", p.x.locks(other), 0);
        }
        due("which can be locked", got.toString(), due);
        due("truth of a lock without b", p.x.truth(job), 0);
        p.x.run(job, 2);
        due("u", p.x.locks(job), 0);
        Check.fails("no job", IndexOutOfBoundsException.class, () -> p.x.locks(2));
    }

    private static void lockReferences() {
        Program p = new Program();
        int one = p.number(1);
        int empty = p.text("");
        p.line(0, p.set(p.global(0, one, one), p.text("q")), p.lock(-1, p.naked(p.number(2)), p.global(1, one, one, one)),
            p.set(p.naked(p.number(3)), one), p.lock(-1, p.local(0, p.global(2, one, one))),
            p.set(p.naked(p.number(5)), one), p.trap(1), p.lock(-1, p.local(1), p.local(0, empty)), p.none('h'));
        p.line(1, p.trap(2), p.lock(p.two('/', one, empty), p.local(1)), p.none('h'));
        int job = p.x.job(0);
        p.x.run(job, 3);
        due("a lock remembers nothing", p.looked(job, p.global(0, one, p.number(3))), "1");
        due("two names", p.x.locks(job), 2);
        p.x.run(job, 1);
        due("an empty subscript", p.x.error(job), 's');
        due("but subscripts remember", p.looked(job, p.naked(p.number(5))), "");
        due("nothing was locked", p.x.locks(job), 0);
        due("ended by the error", p.x.state(job), 'e');
        Program q = new Program();
        int first = q.number(1);
        q.line(0, q.lock(-1, q.local(0, q.two('_', first, q.global(2, first, first)))), q.set(q.naked(q.number(5)), first),
            q.trap(1), q.lock(q.two('/', first, q.text("")), q.local(1)));
        q.line(1, q.show(first), q.trap(2), q.lock(-1, q.local(0), q.global(3, q.text(""))));
        q.line(2, q.show(q.number(2)));
        int other = q.x.job(0);
        q.x.run(other, 2);
        due("subscripts in a lock remember", q.looked(other, q.global(2, first, q.number(5))), "1");
        due("locked with the subscript", q.x.locks(other), 1);
        q.x.run(other, 2);
        due("an error in the tries", q.x.error(other), 'z');
        q.x.run(other, 3);
        due("an error in the second name", q.x.error(other), 's');
        due("all at once", q.x.locks(other), 1);
    }

    private static void lockTries() {
        Program p = new Program();
        int name = p.global(0, p.number(1));
        p.line(0, p.lock(-1, name), p.of('k', p.local(0), 0, 0), p.none('h'));
        p.line(1, p.one('i', p.number(1)), p.lock(p.number(3), name, p.local(3)), p.one('i', p.number(1)),
            p.lock(p.number(-1), name), p.one('i', p.number(1)), p.lock(p.number(0), p.local(7)),
            p.one('i', p.number(1)), p.lock(p.number(1), name), p.lock(-1, name), p.show(p.none('T')));
        int job = p.x.job(0);
        int other = p.x.job(1);
        p.x.run(job, 1);
        p.x.run(other, 2);
        due("waits", p.x.state(other), 'w');
        due("for", p.x.waitsFor(other), 1);
        due("truth of i", p.x.truth(other), 1);
        Check.fails("the other one does not", UnsupportedOperationException.class, () -> p.x.waitsFor(job));
        Check.fails("no job", IndexOutOfBoundsException.class, () -> p.x.waitsFor(2));
        due("a try", p.x.run(other, 1), 1);
        due("still", p.x.state(other), 'w');
        p.x.run(other, 1);
        due("behind the last one", p.x.state(other), 'r');
        due("truth", p.x.truth(other), 0);
        due("nothing locked", p.x.locks(other), 0);
        p.x.run(other, 2);
        due("no try at all", p.x.truth(other), 0);
        p.x.run(other, 2);
        due("not even of what is free", p.x.truth(other) + p.x.locks(other), 0);
        p.x.run(other, 2);
        due("one try", p.x.truth(other), 0);
        due("one step for it", p.x.state(other), 'r');
        p.x.run(other, 1);
        due("as many as need be", p.x.state(other), 'w');
        due("tries are steps", p.x.run(other, 20), 20);
        due("of the job too", p.x.steps(other), 11 + 20);
        p.x.run(job, 2);
        due("waits for none, until it tries", p.x.waitsFor(other), 0);
        p.x.run(other, 1);
        due("locked", p.x.locks(other), 1);
        due("ready", p.x.state(other), 'r');
        due("truth as it was", p.x.truth(other), 0);
        p.x.run(other, 9);
        due("done", p.x.state(other), 'd');
        due("a job that ends gives all up", p.x.locks(other), 0);
        Program q = new Program();
        int local = q.local(0);
        q.line(0, q.lock(-1, local), q.none('u'), q.set(local, q.number(1)));
        q.line(1, q.of('d', 2, 0, 0));
        q.line(2, q.lock(q.number(9), local));
        int first = q.x.job(0);
        int second = q.x.job(1);
        q.x.run(first, 1);
        q.x.run(second, 3);
        due("frames stay as it waits", q.x.depth(second), 2);
        q.x.run(first, 1);
        q.x.run(second, 5);
        due("and end behind it", q.x.depth(second), 0);
        due("truth of a lock with b", q.x.truth(second), 1);
        due("steps of both", q.x.meanSteps(), 3.0);
    }

    private static void lockEnds() {
        Program p = new Program();
        int local = p.local(0);
        int error = p.two('/', p.number(1), local);
        p.line(0, p.lock(-1, local), p.show(error));
        p.line(1, p.lock(-1, local), p.one('q', -1));
        p.line(2, p.lock(-1, local), p.show(local));
        int job = p.x.job(0);
        int second = p.x.job(1);
        int third = p.x.job(2);
        p.x.run(job, 1);
        p.x.run(second, 2);
        p.x.run(third, 2);
        due("both wait for it", p.x.waitsFor(second) + p.x.waitsFor(third), 2);
        p.x.run(job, 1);
        due("an error gives up", p.x.locks(job), 0);
        p.x.run(second, 1);
        due("now the third waits for the second", p.x.waitsFor(third), 2);
        p.x.run(second, 1);
        p.x.run(third, 1);
        due("locked", p.x.locks(third), 1);
        p.x.crash();
        due("a crash gives up", p.x.locks(third), 0);
        due("sound", p.x.isSound(), true);
    }

    private static void rings() {
        Program p = new Program();
        int a = p.global(0, p.number(1));
        int b = p.global(1);
        int c = p.local(2);
        p.line(0, p.lock(-1, a), p.lock(p.number(3), b), p.none('u'), p.show(a));
        p.line(1, p.lock(-1, b), p.lock(-1, c));
        p.line(2, p.lock(-1, c), p.lock(-1, p.global(0)));
        int job = p.x.job(0);
        int second = p.x.job(1);
        int third = p.x.job(2);
        p.x.run(job, 1);
        p.x.run(second, 1);
        p.x.run(third, 1);
        p.x.run(job, 1);
        p.x.run(second, 1);
        due("no ring yet", p.x.isDeadlocked(job) || p.x.isDeadlocked(second), false);
        p.x.run(third, 1);
        due("a ring", p.x.isDeadlocked(job) && p.x.isDeadlocked(second) && p.x.isDeadlocked(third), true);
        p.x.run(job, 2);
        due("behind the last try", p.x.isDeadlocked(second), false);
        p.x.run(job, 1);
        due("a job gives up", p.x.waitsFor(third), 0);
        Check.fails("no job", IndexOutOfBoundsException.class, () -> p.x.isDeadlocked(3));
        Program q = new Program();
        int zero = q.local(0);
        int one = q.local(1);
        q.line(0, q.lock(-1, zero), q.lock(-1, one));
        q.line(1, q.lock(-1, one), q.lock(-1, zero));
        q.line(2, q.lock(-1, zero, one, zero));
        for (int line = 0; line < 3; line++) {
            q.x.run(q.x.job(line), 1);
        }
        q.x.run(0, 2);
        q.x.run(1, 2);
        due("two in a ring", q.x.isDeadlocked(0) && q.x.isDeadlocked(1), true);
        due("one behind them is not in it", q.x.isDeadlocked(2), false);
        due("but waits for both", q.x.waitsFor(2), 3);
    }

    private static void nested() {
        Program p = new Program();
        int one = p.number(1);
        int global = p.global(0);
        p.line(0, p.trap(1), p.none('C'));
        p.line(1, p.trap(2), p.none('R'));
        p.line(2, p.none('B'), p.none('B'), p.set(global, one), p.none('C'), p.none('B'), p.none('R'),
            p.none('B'), p.none('B'), p.set(global, p.number(2)), p.none('C'), p.none('C'), p.show(global));
        int job = p.x.job(0);
        p.x.run(job, 2);
        due("C without B", p.x.error(job), 't');
        p.x.run(job, 2);
        due("R without B", p.x.error(job), 't');
        p.x.run(job, 2);
        due("two", p.x.level(job), 2);
        p.x.run(job, 2);
        due("one", p.x.level(job), 1);
        due("not seen by others", p.x.nodes(0), 0);
        p.x.run(job, 2);
        due("R ends all", p.x.level(job), 0);
        due("gone", p.looked(job, global), "");
        p.x.run(job, 4);
        due("still within", p.x.written(), 0);
        p.x.run(job, 1);
        due("written", p.x.written(), 1);
        due("seen", p.x.nodes(0), 1);
        due("none begun again", p.x.restarts(job), 0);
        Check.fails("no job", IndexOutOfBoundsException.class, () -> p.x.level(1));
        Check.fails("no job", IndexOutOfBoundsException.class, () -> p.x.restarts(1));
    }

    private static void rollBack() {
        Program p = new Program();
        int one = p.number(1);
        int global = p.global(0, one);
        p.line(0, p.set(global, one), p.none('B'), p.set(global, p.number(2)), p.set(p.local(0), p.number(3)),
            p.one('k', p.global(0)), p.set(p.global(0, p.number(9)), one), p.show(p.one('D', global)), p.none('R'),
            p.show(global));
        int job = p.x.job(0);
        p.x.run(job, 7);
        due("its own changes", p.shown(job), "0");
        due("the others see nothing of it", p.x.nodes(0), 1);
        p.x.run(job, 2);
        due("the value as it was", p.shown(job), "01");
        due("locals stay", p.looked(job, p.local(0)), "3");
        due("one change", p.x.flush(), 1);
    }

    private static void isolation() {
        Program p = new Program();
        int one = p.number(1);
        int global = p.global(0, one);
        int other = p.global(1);
        p.line(0, p.none('B'), p.set(other, one), p.show(p.text("-")), p.none('C'), p.show(global));
        p.line(1, p.set(global, p.number(5)), p.set(other, p.number(6)), p.show(other));
        int job = p.x.job(0);
        int second = p.x.job(1);
        p.x.run(job, 2);
        p.x.run(second, 2);
        due("globals as they were as it began", p.looked(job, global), "");
        due("with its own changes", p.looked(job, other), "1");
        due("a look counts not as read", p.looked(second, other), "6");
        p.x.run(job, 2);
        due("written only, so it ends", p.x.level(job), 0);
        due("its changes behind those of others", p.looked(second, other), "1");
        p.x.run(job, 1);
        due("then it sees all", p.shown(job), "-5");
        due("in their order", p.x.written(), 3);
    }

    private static void restart() {
        Program p = new Program();
        int one = p.number(1);
        int global = p.global(0, one);
        p.line(0, p.one('w', 1), p.of('d', 1, 0, 0), p.show(p.text("!")));
        p.line(1, p.set(p.local(0), p.text("a")), p.set(p.global(1, one, one), one), p.loop(3, one, one, one, 2),
            p.show(p.text(".")));
        p.line(2, p.none('B'), p.one('i', one), p.show(global), p.set(p.local(0), p.text("b")), p.one('w', 2),
            p.set(global, p.number(7)), p.lock(-1, p.local(1)), p.trap(9), p.none('C'));
        p.line(3, p.set(global, p.text("x")));
        int job = p.x.job(0);
        int other = p.x.job(3);
        p.x.run(job, 7 + 7);
        p.x.run(other, 1);
        due("within", p.x.level(job), 1);
        due("truth within", p.x.truth(job), 1);
        p.x.run(job, 1);
        due("begun again", p.x.restarts(job), 1);
        due("at the level", p.x.level(job), 1);
        due("locals as they were", p.looked(job, p.local(0)), "a");
        due("truth as it was", p.x.truth(job), 0);
        due("frames as they were", p.x.depth(job), 3);
        due("what is remembered", p.looked(job, p.one('D', p.naked(one))) + p.looked(job, p.naked(one)), "11");
        due("the globals of now", p.looked(job, global), "x");
        due("locks stay", p.x.locks(job), 1);
        due("its changes are gone", p.x.written(), 2);
        p.x.run(job, 8);
        due("goes on behind the B", p.x.level(job), 0);
        due("what was put out stays", p.shown(job), "x");
        due("locked again", p.x.locks(job), 2);
        due("made", p.looked(other, global), "7");
        due("the end of the line", p.x.depth(job), 2);
        p.x.run(job, 9);
        due("all", p.shown(job), "x.!");
        due("steps count", p.x.steps(job), 15 + 8 + 3);
    }

    /** Traps and saved locals of frames come back, and what was read is forgotten. */
    private static void restartFrames() {
        Program p = new Program();
        int name = p.global(0);
        int first = p.local(0);
        int second = p.local(1);
        int not = p.one('!', name);
        int m = p.text("m");
        p.line(0, p.set(first, p.text("a")), p.set(second, p.text("k")), p.of('d', 1, 0, 0), p.show(first),
            p.show(second));
        p.line(1, p.one('w', 1), p.set(first, m), p.trap(2), p.none('B'), p.two('c', not, p.trap(-1)),
            p.two('c', not, p.one('w', 6)), p.none('C'), p.set(second, m), p.none('B'), p.set(p.global(1), m),
            p.none('C'), p.show(p.naked(name)));
        p.line(2, p.show(p.text("!")));
        p.line(3, p.set(name, p.number(1)), p.set(name, p.number(2)));
        int job = p.x.job(0);
        int other = p.x.job(3);
        p.x.run(job, 9);
        due("saved within", p.looked(job, second), "");
        p.x.run(other, 1);
        p.x.run(job, 1);
        due("begun again", p.x.restarts(job), 1);
        due("locals as they were", p.looked(job, first) + p.looked(job, second), "mk");
        p.x.run(job, 5);
        due("the next one", p.x.level(job), 1);
        p.x.run(other, 1);
        p.x.run(job, 2);
        due("has its own reads", p.x.restarts(job), 1);
        due("and ends", p.x.level(job), 0);
        p.x.run(job, 1);
        due("an error", p.x.error(job), 'n');
        due("the trap is back", p.x.depth(job), 2);
        p.x.run(job, 3);
        due("saved ones are those of the frame as it was", p.shown(job), "!am");
    }

    /** A loop that was ended, and a truth that was 1, are as they were. */
    private static void restartLoops() {
        Program p = new Program();
        int name = p.global(0);
        int one = p.number(1);
        int not = p.one('!', name);
        p.line(0, p.trap(3), p.one('i', one), p.loop(0, one, one, p.number(2), 1), p.none('C'));
        p.line(1, p.none('B'), p.two('c', not, p.of('d', 2, 0, 0)), p.two('c', not, p.none('z')), p.none('C'),
            p.show(p.local(0)));
        p.line(2, p.one('i', p.text("")));
        p.line(3, p.show(p.text("e")), p.show(p.none('T')));
        p.line(4, p.set(name, one));
        int job = p.x.job(0);
        int other = p.x.job(4);
        p.x.run(job, 8);
        due("the loop is ended within", p.x.depth(job), 1);
        due("the truth is 0", p.x.truth(job), 0);
        p.x.run(other, 1);
        p.x.run(job, 1);
        due("begun again", p.x.restarts(job), 1);
        due("in the line of the loop", p.x.depth(job), 2);
        due("the truth is 1", p.x.truth(job), 1);
        p.x.run(job, 50);
        due("the loop goes on", p.shown(job), "12e1");
        due("its C is alone", p.x.error(job), 't');
    }

    private static void timesOfEach() {
        Program p = new Program();
        int one = p.number(1);
        int global = p.global(0);
        int read = p.set(p.local(0), global);
        p.line(0, p.none('B'), read, p.none('C'), p.none('B'), read, p.none('C'));
        p.line(1, p.loop(0, one, one, p.number(99), 2));
        p.line(2, p.set(global, p.local(0)));
        int job = p.x.job(0);
        int other = p.x.job(1);
        p.x.run(other, 1);
        for (int transaction = 0; transaction < 2; transaction++) {
            p.x.run(job, 1);
            for (int time = 0; time < 3; time++) {
                p.x.run(job, 1);
                p.x.run(other, 2);
                p.x.run(job, 1);
            }
            p.x.run(job, 2);
            due("ended in its own times", p.x.level(job), 0);
        }
        due("in all", p.x.restarts(job), 6);
        due("no error", p.x.state(job), 'd');
        due("the last value", p.looked(job, p.local(0)), "6");
    }

    /** A job that reads a global in a transaction, and one that changes it. */
    private static Program reading(String text) {
        Program p = new Program();
        int global = p.global(0);
        p.line(0, p.trap(2), p.none('B'), p.set(p.global(1), p.two('_', global, global)), p.none('C'),
            p.show(p.text(text)));
        int change = p.set(global, p.two('I', p.local(0), p.number(1)));
        p.line(1, change, change, change, change, change, change);
        p.line(2, p.show(p.none('T')), p.none('C'));
        return p;
    }

    private static void fourthTime() {
        Program p = reading("end");
        int job = p.x.job(0);
        int other = p.x.job(1);
        p.x.run(job, 2);
        for (int i = 1; i <= 3; i++) {
            p.x.run(job, 1);
            p.x.run(other, 1);
            p.x.run(job, 1);
            due("begun again", p.x.restarts(job), i);
            due("at level 1", p.x.level(job), 1);
            Check.fails("no error yet", NoSuchElementException.class, () -> p.x.error(job));
        }
        p.x.run(job, 1);
        p.x.run(other, 1);
        p.x.run(job, 1);
        due("the fourth time", p.x.error(job), 't');
        due("three times", p.x.restarts(job), 3);
        due("no transaction", p.x.level(job), 0);
        due("the changes are gone", p.x.nodes(1), 0);
        due("caught by the frame", p.x.state(job), 'r');
        p.x.run(job, 2);
        due("the trap's line", p.shown(job), "0");
        due("C without a transaction", p.x.state(job), 'e');
        Program q = reading("end");
        int third = q.x.job(0);
        int fourth = q.x.job(1);
        q.x.run(third, 2);
        for (int i = 1; i <= 3; i++) {
            q.x.run(third, 1);
            q.x.run(fourth, 1);
            q.x.run(third, 1);
        }
        q.x.run(third, 2);
        due("it may end then", q.x.level(third), 0);
        due("with the last values", q.looked(third, q.global(1)), "33");
        q.x.run(third, 1);
        due("and go on", q.shown(third), "end");
    }

    /** How often a transaction of a command is begun again as another job does one of its own meanwhile. */
    private static int restartsOf(Program p, int ahead, int within, int meanwhile) {
        p.line(0, ahead, p.none('B'), within, p.none('C'), p.none('h'));
        p.line(1, meanwhile);
        int job = p.x.job(0);
        int other = p.x.job(1);
        p.x.run(job, 3);
        p.x.run(other, 1);
        p.x.run(job, 1);
        due("sound", p.x.isSound(), true);
        return p.x.restarts(job);
    }

    private static void whatIsRead() {
        String[] what = {"value", "below", "D", "D above", "G", "I", "kill", "merge", "in a lock", "in an index", "naked",
            "call", "own"};
        for (int i = 0; i < what.length; i++) {
            Program p = new Program();
            int one = p.number(1);
            int global = p.global(0, one);
            int deeper = p.global(0, one, one);
            int set = p.set(global, p.number(7));
            int[] within = {p.show(global), p.show(global), p.show(p.one('D', global)), p.show(p.one('D', global)),
                p.show(p.two('G', global, one)), p.show(p.two('I', global, one)), p.one('k', global),
                p.two('m', p.local(0), global), p.lock(-1, p.local(0, p.two('_', one, global))),
                p.set(p.local(0, p.two('_', one, global)), one), p.show(p.naked(one)), p.show(p.call(5)),
                p.two('c', one, p.set(global, p.two('+', global, one)))};
            p.line(5, p.one('q', p.two('_', one, global)));
            int meanwhile = i == 1 || i == 3 || i == 7 ? p.set(deeper, one) : set;
            due("read: " + what[i], restartsOf(p, p.set(global, one), within[i], meanwhile), 1);
        }
    }

    private static void whatIsNotRead() {
        String[] what = {"set", "merged to", "locked", "beside", "above", "the same again", "a local", "S", "G"};
        for (int i = 0; i < what.length; i++) {
            Program p = new Program();
            int one = p.number(1);
            int global = p.global(0, one);
            int beside = p.global(0, p.number(2));
            int set = p.set(global, p.number(7));
            int[] within = {p.set(global, one), p.two('m', global, p.local(0)), p.lock(-1, global), p.show(beside),
                p.show(p.global(0, one, one)), p.show(global), p.set(p.local(1), p.local(0)),
                p.show(p.of('S', one, one, global)), p.show(p.two('G', p.local(0), global))};
            int meanwhile = i == 5 ? p.set(global, one) : set;
            int ahead = i == 8 ? p.set(p.local(0), one) : p.set(global, one);
            due("not read: " + what[i], restartsOf(p, ahead, within[i], meanwhile), 0);
        }
    }

    private static void around() {
        for (int i = 0; i < 8; i++) {
            Program p = new Program();
            int one = p.number(1);
            int two = p.number(2);
            int order = p.show(p.two('O', p.global(0, one, one), 0));
            int query = p.show(p.one('Q', p.global(0, one)));
            int first = p.show(p.two('O', p.global(0, p.text("")), 1));
            int beside = p.set(p.global(0, one, p.number(9), one), one);
            int outside = p.set(p.global(0, two), one);
            int other = p.set(p.global(1, one), one);
            int[] within = {order, order, order, query, query, query, first, first};
            int[] meanwhile = {beside, outside, other, beside, outside, other, outside, other};
            due("around " + i, restartsOf(p, p.set(p.global(0, one, one), one), within[i], meanwhile[i]),
                new int[] {1, 0, 0, 1, 1, 0, 1, 0}[i]);
        }
    }

    private static void endedJobs() {
        Program p = new Program();
        int one = p.number(1);
        p.line(0, p.none('B'), p.set(p.global(0), one), p.lock(-1, p.local(0)));
        p.line(1, p.none('B'), p.set(p.global(0), one), p.show(p.naked(one)));
        p.line(2, p.none('B'), p.none('B'), p.set(p.global(0), one), p.none('h'));
        for (int line = 0; line < 3; line++) {
            int job = p.x.job(line);
            p.x.run(job, 9);
            due("no transaction", p.x.level(job), 0);
            due("no locks", p.x.locks(job), 0);
            due("no changes", p.x.written(), 0);
            due("the globals of now", p.looked(job, p.global(0)), "");
            due("sound", p.x.isSound(), true);
        }
        due("share", p.x.doneShare(), 2f / 3f);
        due("mean", p.x.meanSteps(), 10.0 / 3.0);
    }

    private static void journal() {
        Program p = new Program();
        int one = p.number(1);
        p.line(0, p.set(p.global(0), one), p.one('k', p.global(1, one)), p.set(p.local(0), one),
            p.show(p.two('I', p.global(0, one), one)), p.one('k', p.local(0)), p.two('m', p.global(1), p.global(0)));
        int job = p.x.job(0);
        p.x.run(job, 2);
        due("a value and a kill of nothing", p.x.written(), 2);
        due("the journal", p.x.journal(), 0);
        due("an image of nothing", p.x.image(), 0);
        due("flushed", p.x.flush(), 2);
        due("nothing is written", p.x.written(), 0);
        due("the journal has it", p.x.journal(), 2);
        p.x.run(job, 3);
        due("locals are not written", p.x.written(), 1);
        due("an image has the journal", p.x.image(), 2);
        p.x.run(job, 1);
        due("each value of a merge", p.x.written(), 3);
        due("flushed all", p.x.flush(), 5);
        due("flushed nothing", p.x.flush(), 5);
        due("sound", p.x.isSound(), true);
    }

    private static void crashes() {
        Program p = new Program();
        int one = p.number(1);
        int global = p.global(0, one);
        p.line(0, p.set(global, one), p.set(global, p.number(2)), p.one('w', 1), p.none('B'),
            p.set(p.local(0), one), p.one('k', p.global(0)), p.none('C'), p.show(one));
        p.line(1, p.lock(-1, p.local(0)), p.of('d', 2, 0, 0));
        p.line(2, p.show(one), p.show(p.naked(one)));
        int job = p.x.job(0);
        int other = p.x.job(1);
        int third = p.x.job(9);
        p.x.run(job, 1);
        p.x.flush();
        p.x.image();
        p.x.run(job, 1);
        p.x.flush();
        p.x.run(job, 6);
        p.x.run(other, 2);
        due("killed", p.x.nodes(0), 0);
        due("written", p.x.written(), 1);
        due("lost", p.x.crash(), 1);
        due("the image and the journal", p.looked(job, global), "2");
        due("not flushed", p.x.written() + p.x.journal(), 2);
        due("a job that is done", p.x.state(job), 'd');
        due("one that was not", p.x.state(other), 'x');
        due("without frames", p.x.depth(other), 0);
        due("without locks", p.x.locks(other), 0);
        due("makes no steps", p.x.run(other, 5), 0);
        Check.fails("a crash is no error", NoSuchElementException.class, () -> p.x.error(other));
        due("it was done at once", p.x.state(third), 'd');
        due("again", p.x.crash(), 0);
        due("sound", p.x.isSound(), true);
        due("share", p.x.doneShare(), 2f / 3f);
        Program q = new Program();
        int local = q.local(0);
        q.line(0, q.set(local, q.number(4)), q.one('w', 1), q.none('B'), q.lock(-1, local), q.set(q.global(0), local),
            q.none('h'));
        q.line(1, q.lock(-1, local), q.none('h'));
        int first = q.x.job(0);
        int second = q.x.job(1);
        q.x.run(first, 5);
        q.x.run(second, 1);
        due("waits", q.x.state(second), 'w');
        due("nothing lost of a transaction", q.x.crash(), 0);
        due("both ended", "" + q.x.state(first) + q.x.state(second), "xx");
        due("locals as they were", q.looked(first, local), "4");
        due("no transaction", q.x.level(first), 0);
        due("the globals", q.looked(first, q.global(0)), "");
        Check.fails("waits no more", UnsupportedOperationException.class, () -> q.x.waitsFor(second));
    }

    private static void replica() {
        Program p = new Program();
        int one = p.number(1);
        int global = p.global(2, one);
        int set = p.set(global, p.two('I', p.local(0), one));
        p.line(0, p.loop(1, one, one, p.number(50), 1), p.one('k', p.global(2)), p.show(one));
        p.line(1, set, p.set(p.global(3, p.local(0)), one));
        int job = p.x.job(0);
        due("same at first", p.x.isSame(), true);
        Check.fails("0 changes", IllegalArgumentException.class, () -> p.x.follow(0));
        Check.fails("100 changes", IllegalArgumentException.class, () -> p.x.follow(100));
        p.x.run(job, 4);
        due("not the same", p.x.isSame(), false);
        due("nothing to follow", p.x.follow(99), 0);
        p.x.flush();
        due("lag", p.x.lag(), 2);
        due("one", p.x.follow(1), 1);
        due("lag of one", p.x.lag(), 1);
        due("both", p.x.follow(9), 2);
        due("the same", p.x.isSame(), true);
        p.x.run(job, 200);
        due("flushed", p.x.flush(), 101);
        due("99 more", p.x.follow(99), 101);
        due("no lag", p.x.lag(), 0);
        due("the same by a kill", p.x.isSame(), true);
        due("values", p.x.nodes(3), 50);
        due("sound", p.x.isSound(), true);
        Program q = new Program();
        int node = q.global(0);
        q.line(0, q.set(node, q.number(1)), q.set(node, q.number(2)), q.set(node, q.number(1)));
        int other = q.x.job(0);
        q.x.run(other, 1);
        q.x.flush();
        q.x.follow(5);
        q.x.run(other, 1);
        due("another value", q.x.isSame(), false);
        q.x.run(other, 1);
        due("the same values again", q.x.isSame(), true);
        due("without lag", q.x.lag(), 0);
    }

    private static void sums() {
        Program p = new Program();
        int one = p.number(1);
        p.line(0, p.set(p.global(1, one, p.text("ab")), p.number(-7)), p.set(p.global(1), p.text("")),
            p.set(p.global(0, p.text("z")), p.text("q")), p.set(p.local(0), one));
        int job = p.x.job(0);
        due("at first", p.x.checksum(), 7L);
        p.x.run(job, 1);
        long sum = (((((7L * 31 + 2) * 31 + '1') * 31 + 'a') * 31 + 'b') * 31 + '-') * 31 + '7';
        due("a node", p.x.checksum(), sum);
        p.x.run(job, 1);
        long both = ((((((7L * 31) * 31 + 2) * 31 + '1') * 31 + 'a') * 31 + 'b') * 31 + '-') * 31 + '7';
        due("a name with an empty value", p.x.checksum(), both);
        p.x.run(job, 9);
        long all = ((7L * 31 + 1) * 31 + 'z') * 31 + 'q';
        all = ((((((all * 31) * 31 + 2) * 31 + '1') * 31 + 'a') * 31 + 'b') * 31 + '-') * 31 + '7';
        due("two globals", p.x.checksum(), all);
        p.x.crash();
        due("after a crash", p.x.checksum(), 7L);
    }
}
