/** Tells nodes and lines of an object by short calls, and asks for what comes of them. */
final class Program {
    final GlobalSpan x = new GlobalSpan();
    private int idle = -1;
    private int nextLine = 10;

    int of(char kind, int a, int b, int c) {
        return x.node(kind, a, b, c);
    }

    int number(int number) {
        return x.node('#', number, 0, 0);
    }

    /** A text of any length, put together by '_'. */
    int text(String text) {
        int made = -1;
        for (int at = 0; at < text.length(); at += 3) {
            int next = x.node('t', text.charAt(at), at + 1 < text.length() ? text.charAt(at + 1) : 0,
                at + 2 < text.length() ? text.charAt(at + 2) : 0);
            made = made < 0 ? next : x.node('_', made, next, 0);
        }
        return made < 0 ? x.node('t', 0, 0, 0) : made;
    }

    int list(int... parts) {
        int list = -1;
        for (int i = parts.length - 1; i >= 0; i--) {
            list = x.node(',', parts[i], list, 0);
        }
        return list;
    }

    int local(int name, int... subscripts) {
        return x.node('v', name, list(subscripts), 0);
    }

    int global(int name, int... subscripts) {
        return x.node('g', name, list(subscripts), 0);
    }

    int naked(int... subscripts) {
        return x.node('n', list(subscripts), 0, 0);
    }

    int two(char kind, int a, int b) {
        return x.node(kind, a, b, 0);
    }

    int one(char kind, int a) {
        return x.node(kind, a, 0, 0);
    }

    int none(char kind) {
        return x.node(kind, 0, 0, 0);
    }

    int set(int reference, int expression) {
        return x.node('s', reference, expression, 0);
    }

    int show(int expression) {
        return x.node('o', expression, 0, 0);
    }

    int trap(int line) {
        return x.node('r', line, 0, 0);
    }

    int call(int line, int... parts) {
        return x.node('F', line, list(parts), 0);
    }

    int loop(int local, int from, int step, int to, int line) {
        return x.node('f', local, list(from, step, to), line);
    }

    int lock(int tries, int... references) {
        return x.node('l', list(references), tries, 0);
    }

    void line(int line, int... commands) {
        x.line(line, list(commands));
    }

    String looked(int job, int node) {
        int length;
        try {
            length = x.look(job, node);
        } catch (UnsupportedOperationException e) {
            return "error " + x.lookError(job, node);
        }
        StringBuilder s = new StringBuilder();
        for (int i = 0; i < length; i++) {
            s.append(x.lookAt(i));
        }
        return s.toString();
    }

    /** A look at a new text that is an error. */
    void lookedError(int job) {
        int error = x.lookError(job, two('/', two('_', x.node('t', 'e', 'r', 'r'), x.node('t', 'o', 'r', 0)), x.node('#', 0, 0, 0)));
        Check.same("an error of a look", error, (int) 'z');
    }

    String shown(int job) {
        StringBuilder s = new StringBuilder();
        for (int i = 0; i < x.output(job); i++) {
            s.append(x.outputAt(job, i));
        }
        return s.toString();
    }

    /** A text of so many characters from a on, up to 40. */
    int letters(int count) {
        int five = two('_', x.node('t', 'a', 'b', 'c'), x.node('t', 'd', 'e', 0));
        int eight = two('_', five, x.node('t', 'f', 'g', 'h'));
        int more = two('_', eight, two('_', eight, eight));
        return x.node('E', two('_', more, more), number(1), number(count));
    }

    /** What letters makes. */
    static String lettersOf(int count) {
        StringBuilder s = new StringBuilder();
        for (int i = 0; i < count; i++) {
            s.append((char) ('a' + i % 8));
        }
        return s.toString();
    }

    /** A job of a line of its own. */
    int job(int... commands) {
        line(nextLine, commands);
        nextLine++;
        return x.job(nextLine - 1);
    }

    /** A job of a line of its own that has made steps. */
    int ran(int steps, int... commands) {
        int job = job(commands);
        x.run(job, steps);
        return job;
    }

    /** What a job shows that has only to show an expression; the letter of its error, if it is one. */
    String shownBy(int node) {
        int job = ran(1, show(node));
        return x.state(job) == 'e' ? "error " + x.error(job) : shown(job);
    }

    private static String told(Check.Call call) {
        try {
            return call.make() + " ";
        } catch (RuntimeException e) {
            return e.getClass().getSimpleName() + " ";
        }
    }

    /** All that can be asked without a change. */
    String all() {
        StringBuilder s = new StringBuilder();
        for (int i = 0; i < 4; i++) {
            int job = i;
            s.append(told(() -> x.state(job))).append(told(() -> x.error(job))).append(told(() -> x.truth(job)));
            s.append(told(() -> x.depth(job))).append(told(() -> x.steps(job))).append(told(() -> shown(job)));
            s.append(told(() -> x.locks(job))).append(told(() -> x.isDeadlocked(job))).append(told(() -> x.waitsFor(job)));
            s.append(told(() -> x.level(job))).append(told(() -> x.restarts(job))).append(told(() -> x.nodes(job)));
        }
        for (int i = 0; i < 41; i++) {
            int index = i;
            s.append(told(() -> x.lookAt(index)));
        }
        s.append(x.lookNumber()).append(' ').append(x.written()).append(' ').append(x.journal()).append(' ');
        s.append(x.lag()).append(x.isSame()).append(x.checksum()).append(told(x::doneShare)).append(told(x::meanSteps));
        return s.append(x.isSound()).toString();
    }

    /** What an expression is for a job that has nothing. */
    String value(int node) {
        if (idle < 0) {
            idle = x.job(19);
        }
        return looked(idle, node);
    }
}
