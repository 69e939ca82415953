/** Tells nodes and lines of an object by short calls, and asks for what comes of them. */
final class Program {
    final GlobalSpan x = new GlobalSpan();
    private int idle = -1;

    int of(char kind, int a, int b, int c) {
        return x.node(kind, a, b, c);
    }

    int number(int number) {
        return x.node('#', number, 0, 0);
    }

    /** A text of any length, put together by '_'. */
    int text(String text) {
        int made = -1;
        for (int at = 0; at < text.length(); at += 3) {
            int next = x.node('t', text.charAt(at), at + 1 < text.length() ? text.charAt(at + 1) : 0,
                at + 2 < text.length() ? text.charAt(at + 2) : 0);
            made = made < 0 ? next : x.node('_', made, next, 0);
        }
        return made < 0 ? x.node('t', 0, 0, 0) : made;
    }

    int list(int... parts) {
        int list = -1;
        for (int i = parts.length - 1; i >= 0; i--) {
            list = x.node(',', parts[i], list, 0);
        }
        return list;
    }

    int local(int name, int... subscripts) {
        return x.node('v', name, list(subscripts), 0);
    }

    int global(int name, int... subscripts) {
        return x.node('g', name, list(subscripts), 0);
    }

    int naked(int... subscripts) {
        return x.node('n', list(subscripts), 0, 0);
    }

    int two(char kind, int a, int b) {
        return x.node(kind, a, b, 0);
    }

    int one(char kind, int a) {
        return x.node(kind, a, 0, 0);
    }

    int none(char kind) {
        return x.node(kind, 0, 0, 0);
    }

    int set(int reference, int expression) {
        return x.node('s', reference, expression, 0);
    }

    int show(int expression) {
        return x.node('o', expression, 0, 0);
    }

    int trap(int line) {
        return x.node('r', line, 0, 0);
    }

    int call(int line, int... parts) {
        return x.node('F', line, list(parts), 0);
    }

    int loop(int local, int from, int step, int to, int line) {
        return x.node('f', local, list(from, step, to), line);
    }

    int lock(int tries, int... references) {
        return x.node('l', list(references), tries, 0);
    }

    void line(int line, int... commands) {
        x.line(line, list(commands));
    }

    String looked(int job, int node) {
        int length;
        try {
            length = x.look(job, node);
        } catch (UnsupportedOperationException e) {
            return "error " + x.lookError(job, node);
        }
        StringBuilder s = new StringBuilder();
        for (int i = 0; i < length; i++) {
            s.append(x.lookAt(i));
        }
        return s.toString();
    }

    String shown(int job) {
        StringBuilder s = new StringBuilder();
        for (int i = 0; i < x.output(job); i++) {
            s.append(x.outputAt(job, i));
        }
        return s.toString();
    }

    /** What an expression is for a job that has nothing. */
    String value(int node) {
        if (idle < 0) {
            idle = x.job(19);
        }
        return looked(idle, node);
    }
}
