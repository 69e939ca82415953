import java.util.NoSuchElementException;

/**
 * The three runs of the shared test with the ',' nodes put back that these leave out, so that their lines do something;
 * the answers are those of the document.
 */
public final class FullRunsTest {
    private FullRunsTest() {
    }

    public static void main(String[] args) {
        nakedReferences();
        transactionsAndLocks();
        errors();
        Check.finish("FullRunsTest");
    }

    private static void node(GlobalSpan x, int due, char kind, int a, int b) {
        Check.same("node " + due, x.node(kind, a, b, 0), due);
    }

    private static void looked(GlobalSpan x, int job, int node, int length, int number) {
        Check.same("look(" + job + ", " + node + ")", x.look(job, node), length);
        Check.same("lookNumber of " + node, x.lookNumber(), number);
    }

    private static void nakedReferences() {
        GlobalSpan x = new GlobalSpan();
        node(x, 0, '#', 5, 0);
        node(x, 1, '#', 2, 0);
        node(x, 2, ',', 1, -1);
        node(x, 3, 'g', 0, 2);
        node(x, 4, 's', 3, 0);
        node(x, 5, 'n', 2, 0);
        node(x, 6, '+', 3, 5);
        node(x, 7, 'v', 0, -1);
        node(x, 8, 's', 7, 6);
        node(x, 9, 'o', 7, 0);
        node(x, 10, ',', 9, -1);
        node(x, 11, ',', 8, 10);
        node(x, 12, ',', 4, 11);
        Check.same("line", x.line(0, 12), -1);
        Check.same("job", x.job(0), 0);
        Check.same("run", x.run(0, 1), 1);
        looked(x, 0, 3, 1, 5);
        Check.same("run", x.run(0, 9), 2);
        Check.same("state", x.state(0), 'd');
        looked(x, 0, 7, 2, 10);
        Check.same("output", x.output(0), 2);
        Check.same("outputAt", x.outputAt(0, 1), '0');
        Check.same("nodes", x.nodes(0), 1);
        Check.same("written", x.written(), 1);
        Check.same("flush", x.flush(), 1);
        Check.same("follow", x.follow(9), 1);
        Check.same("isSame", x.isSame(), true);
        node(x, 13, 't', 0, 0);
        node(x, 14, ',', 13, -1);
        node(x, 15, 'g', 0, 14);
        node(x, 16, 'O', 15, 0);
        looked(x, 0, 16, 1, 2);
        node(x, 17, 'g', 0, -1);
        node(x, 18, 'Q', 17, 0);
        Check.same("look at Q", x.look(0, 18), 1);
        Check.same("lookAt", x.lookAt(0), '2');
        node(x, 19, 'D', 17, 0);
        looked(x, 0, 19, 2, 10);
        node(x, 20, 'I', 3, 1);
        Check.fails("look at I", IllegalArgumentException.class, () -> x.look(0, 20));
        Check.same("lookNumber", x.lookNumber(), 10);
        node(x, 21, 'O', 17, 0);
        Check.same("lookError without a subscript", x.lookError(0, 21), 's');
        Check.same("lookError of the naked reference", x.lookError(0, 5), '-');
        Check.same("job", x.job(0), 1);
        Check.same("lookError with nothing remembered", x.lookError(1, 5), 'n');
        Check.same("run", x.run(1, 2), 2);
        Check.same("truth", x.truth(1), 0);
        Check.same("depth", x.depth(1), 1);
        Check.same("meanSteps", x.meanSteps(), 2.5);
        Check.same("doneShare", x.doneShare(), 0.5f);
        Check.same("crash", x.crash(), 1);
        Check.same("state", x.state(1), 'x');
        Check.same("checksum", x.checksum(), ((7L * 31 + 1) * 31 + '2') * 31 + '5');
        Check.same("isSound", x.isSound(), true);
    }

    private static void transactionsAndLocks() {
        GlobalSpan x = new GlobalSpan();
        node(x, 0, 'g', 1, -1);
        node(x, 1, '#', 1, 0);
        node(x, 2, 'I', 0, 1);
        node(x, 3, 'v', 0, -1);
        node(x, 4, 's', 3, 2);
        node(x, 5, 'B', 0, 0);
        node(x, 6, 'C', 0, 0);
        node(x, 7, ',', 6, -1);
        node(x, 8, ',', 4, 7);
        node(x, 9, ',', 5, 8);
        x.line(0, 9);
        x.job(0);
        x.job(0);
        Check.same("run", x.run(0, 2), 2);
        Check.same("level", x.level(0), 1);
        Check.same("nodes", x.nodes(1), 0);
        looked(x, 0, 0, 1, 1);
        Check.same("run", x.run(1, 2), 2);
        Check.same("run", x.run(0, 1), 1);
        Check.same("state", x.state(0), 'd');
        Check.same("nodes", x.nodes(1), 1);
        Check.same("run", x.run(1, 1), 1);
        Check.same("restarts", x.restarts(1), 1);
        Check.same("level", x.level(1), 1);
        Check.same("run", x.run(1, 2), 2);
        Check.same("state", x.state(1), 'd');
        looked(x, 1, 3, 1, 2);
        Check.same("written", x.written(), 2);
        node(x, 10, ',', 0, -1);
        node(x, 11, 'l', 10, -1);
        node(x, 12, '#', 7, 0);
        node(x, 13, 'o', 12, 0);
        node(x, 14, ',', 13, -1);
        node(x, 15, ',', 11, 14);
        Check.same("line", x.line(1, 15), -1);
        node(x, 16, 'u', 0, 0);
        Check.same("line", x.line(2, 15), -1);
        Check.same("job", x.job(1), 2);
        Check.same("run", x.run(2, 1), 1);
        Check.same("locks", x.locks(2), 1);
        Check.same("state", x.state(2), 'r');
        Check.same("isDeadlocked", x.isDeadlocked(2), false);
        Check.fails("waitsFor", UnsupportedOperationException.class, () -> x.waitsFor(2));
        Check.same("run", x.run(2, 5), 1);
        Check.same("state", x.state(2), 'd');
        Check.same("locks", x.locks(2), 0);
        Check.same("image", x.image(), 0);
        Check.same("flush", x.flush(), 2);
        Check.same("image", x.image(), 2);
        Check.same("lag", x.lag(), 2);
        Check.same("follow", x.follow(1), 1);
        Check.same("crash", x.crash(), 0);
        Check.same("nodes", x.nodes(1), 1);
        Check.same("isSame", x.isSame(), false);
        Check.same("checksum", x.checksum(), 7L * 31 * 31 + '2');
        Check.same("isSound", x.isSound(), true);
    }

    private static void errors() {
        GlobalSpan x = new GlobalSpan();
        node(x, 0, '#', 0, 0);
        Check.fails("a later node", IllegalArgumentException.class, () -> x.node('+', 0, 1, 0));
        node(x, 1, '/', 0, 0);
        node(x, 2, 'o', 1, 0);
        node(x, 3, 'r', 1, 0);
        node(x, 4, ',', 2, -1);
        node(x, 5, ',', 3, 4);
        Check.fails("line 20", IllegalArgumentException.class, () -> x.line(20, 5));
        Check.fails("no node", UnsupportedOperationException.class, () -> x.line(0, 99));
        Check.fails("no list", UnsupportedOperationException.class, () -> x.line(0, 0));
        Check.same("line", x.line(0, 5), -1);
        Check.same("line", x.line(1, -1), -1);
        Check.same("job", x.job(0), 0);
        Check.same("job of nothing", x.job(3), 1);
        Check.same("state", x.state(1), 'd');
        Check.same("run", x.run(0, 1), 1);
        Check.same("run", x.run(0, 1), 1);
        Check.same("error", x.error(0), 'z');
        Check.same("state behind the trap", x.state(0), 'd');
        Check.same("depth", x.depth(0), 0);
        Check.same("job", x.job(0), 2);
        Check.fails("a fourth job", IllegalStateException.class, () -> x.job(0));
        Check.fails("no error", NoSuchElementException.class, () -> x.error(1));
        Check.fails("look at an error", UnsupportedOperationException.class, () -> x.look(0, 1));
        Check.fails("look of no job", IndexOutOfBoundsException.class, () -> x.look(3, 1));
        Check.fails("look at a command", IllegalArgumentException.class, () -> x.look(0, 2));
        Check.same("lookError", x.lookError(0, 1), 'z');
        Check.fails("nothing kept", NoSuchElementException.class, () -> x.lookAt(0));
        node(x, 6, 'F', 2, -1);
        Check.fails("look at F", IllegalArgumentException.class, () -> x.look(0, 6));
        node(x, 7, 'v', 1, -1);
        node(x, 8, 's', 7, 6);
        node(x, 9, ',', 8, -1);
        Check.same("line", x.line(4, 9), -1);
        Check.same("run", x.run(2, 200), 2);
        Check.same("error", x.error(2), 'z');
        Check.fails("no output", NoSuchElementException.class, () -> x.outputAt(0, 0));
        Check.same("steps", x.steps(2), 2);
        Check.same("level", x.level(2), 0);
        Check.same("isSound", x.isSound(), true);
    }
}
