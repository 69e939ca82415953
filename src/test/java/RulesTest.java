import java.io.IOException;
import java.nio.file.Files;
import java.nio.file.Path;
import java.util.List;
import java.util.TreeSet;
import java.util.regex.Matcher;
import java.util.regex.Pattern;

/** Rules of LANGUAGE.md that can be seen in the text of the file, and what a long run makes. */
public final class RulesTest {
    private static final Path FILE = Path.of("src/main/java/GlobalSpan.java");
    private static final String NAMES = "node line job run state error truth depth steps output outputAt look lookAt "
        + "lookNumber lookError nodes locks isDeadlocked waitsFor level restarts written flush journal image crash follow "
        + "lag isSame checksum doneShare meanSteps isSound";

    private RulesTest() {
    }

    public static void main(String[] args) throws IOException {
        List<String> lines = Files.readAllLines(FILE);
        text(lines);
        methods(lines);
        classes(lines);
        longRuns();
        longErrors();
        longTexts();
        Check.finish("RulesTest");
    }

    private static String code(String line) {
        return line.replaceAll("\"[^\"]*\"", "\"\"").replaceAll("//.*|^\\s*/?\\*.*", "");
    }

    private static void text(List<String> lines) {
        String[] refused = {"->", "::", "finally", "synchronized", "assert ", "package ", "String.format", "System.out",
            "protected", ".hashCode(", "toString(", ".clone(", "Exact", "Double.", "Float.", "Character.", "Collections.",
            "Objects.", "Optional", "Stream", "catch (Exception", "catch (RuntimeException", "catch (NullPointer",
            "catch (ArithmeticException", "catch (IndexOutOf", "catch (ArrayIndex", "catch (Throwable", "getMessage"};
        for (int i = 0; i < lines.size(); i++) {
            String line = lines.get(i);
            due(i, "only characters 32 to 126", line.matches("[ -~]*"));
            for (String word : refused) {
                due(i, "no " + word, !code(line).contains(word));
            }
            due(i, "texts are not joined by +", !line.matches(".*\"\\s*\\+.*|.*\\+\\s*\".*"));
            Matcher imported = Pattern.compile("import (.*);").matcher(line);
            if (imported.matches()) {
                due(i, "an import of the list", imported.group(1).matches("java\\.util\\.(Arrays|NoSuchElementException)"));
            }
            Matcher thrown = Pattern.compile(".*throw (.*)").matcher(code(line));
            if (thrown.matches()) {
                due(i, "a plain throw", thrown.group(1).matches("new (IllegalState|IllegalArgument|IndexOutOfBounds|"
                    + "Arithmetic|UnsupportedOperation|NoSuchElement)Exception\\(\"\"\\);"));
            }
            if (code(line).contains(" static ") && code(line).matches(".*\\b(=|;).*") && !code(line).contains("(")) {
                due(i, "static fields are final constants",
                    code(line).matches("\\s*(private )?static final (int|char|String|long|boolean) [A-Z_]+ = .*;"));
            }
        }
    }

    /** Methods stay short, take few parameters, and none has a try with a throw, or a public one's name. */
    private static void methods(List<String> lines) {
        TreeSet<String> names = new TreeSet<>(List.of(NAMES.split(" ")));
        Pattern head = Pattern.compile("(    |        )(public |private )?(static )?[\\w\\[\\]]+ (\\w+)\\((.*)");
        for (int i = 0; i < lines.size(); i++) {
            Matcher m = head.matcher(lines.get(i));
            if (!m.matches() || lines.get(i).endsWith(";")) {
                continue;
            }
            int end = i;
            StringBuilder body = new StringBuilder();
            while (!lines.get(end).equals(m.group(1) + "}")) {
                body.append(code(lines.get(end))).append('\n');
                end++;
            }
            due(i, "at most 60 lines", end - i < 60);
            due(i, "at most 7 parameters", m.group(5).split(",").length <= 7);
            due(i, "no try where a throw is", !(body.indexOf("try {") >= 0 && body.indexOf("throw new") >= 0));
            boolean isPublic = "public ".equals(m.group(2));
            due(i, "the face's names are public, others not", names.contains(m.group(4)) == isPublic);
        }
    }

    private static void classes(List<String> lines) {
        int classes = 0;
        int fields = 0;
        for (int i = 0; i < lines.size(); i++) {
            String line = code(lines.get(i));
            if (line.contains(" class ")) {
                classes++;
                fields = 0;
                due(i, "final, and private within", line.matches("public final class GlobalSpan \\{|"
                    + "    private static final class \\w+ \\{"));
            } else if (line.matches("( {4}| {8})(private )?(final )?[\\w\\[\\]]+ \\w+;")) {
                fields++;
                due(i, "at most 20 fields", fields <= 20);
            }
        }
        due(0, "at most 12 classes, not " + classes, classes <= 12);
    }

    private static void due(int line, String what, boolean isSo) {
        Check.same("line " + (line + 1) + ": " + what, isSo, true);
    }

    private static long bytes() {
        java.lang.management.ThreadMXBean bean = java.lang.management.ManagementFactory.getThreadMXBean();
        return ((com.sun.management.ThreadMXBean) bean).getThreadAllocatedBytes(Thread.currentThread().getId());
    }

    /** An endless loop of all sorts for 480 calls of 200 steps: it makes nothing but what it keeps. */
    private static void longRuns() {
        Program p = new Program();
        int one = p.number(1);
        int global = p.global(0, p.two('%', p.two('I', p.local(1), one), p.number(50)));
        p.line(0, p.loop(0, one, p.number(0), one, 1));
        p.line(1, p.none('B'), p.set(global, p.two('_', p.text("ab"), p.local(2))), p.lock(-1, global, p.local(1)),
            p.show(p.two('O', p.global(0, p.local(1)), 0)), p.set(p.local(2), p.call(2, one, p.local(1))),
            p.two('m', p.local(3), p.global(0)), p.show(p.one('Q', p.global(0))), p.none('C'), p.none('u'));
        p.line(2, p.one('q', p.two('%', p.two('+', p.local(0), p.local(1)), p.number(100))));
        int job = p.x.job(0);
        long before = bytes();
        for (int call = 0; call < 480; call++) {
            p.x.run(job, 200);
        }
        long made = bytes() - before;
        Check.same("state", p.x.state(job), 'r');
        Check.same("sound", p.x.isSound(), true);
        Check.same("a long run makes " + made + " bytes, at most 4 million", made < 4000000, true);
    }
    /** Makes 480 calls of 200 steps, and tells how many bytes they made. */
    private static long bytesOf(Program p, int line) {
        int job = p.x.job(line);
        long before = bytes();
        for (int call = 0; call < 480; call++) {
            p.x.run(job, 200);
        }
        long made = bytes() - before;
        Check.same("state", p.x.state(job), 'r');
        Check.same("steps", p.x.steps(job), 96000);
        return made;
    }

    /** Errors of the language are no objects: neither those of steps nor the many ones within calls. */
    private static void longErrors() {
        Program p = new Program();
        int one = p.number(1);
        p.line(0, p.loop(0, one, p.number(0), one, 1));
        p.line(1, p.trap(2), p.show(p.call(3)));
        p.line(2, p.trap(4), p.show(p.naked(one)));
        p.line(3, p.loop(0, one, p.number(0), one, 5));
        p.line(5, p.trap(4), p.show(p.local(0, p.two('/', one, p.number(0)))));
        long made = bytesOf(p, 0);
        Check.same("errors make " + made + " bytes, at most 100000", made < 100000, true);
    }

    /** Texts that nothing has are gone behind their step: those in between, those of looks, and those of calls. */
    private static void longTexts() {
        Program p = new Program();
        int one = p.number(1);
        int up = p.two('I', p.local(1), one);
        int text = p.two('_', p.two('_', p.text("abcdefgh"), up), p.text("xyz"));
        p.line(0, p.loop(0, one, p.number(0), one, 1));
        p.line(1, p.one('i', p.two('[', p.two('_', text, text), text)), p.show(p.one('L', p.call(2, one))),
            p.show(p.global(0, text)), p.show(p.local(0, one, text)));
        p.line(2, p.one('q', p.of('S', p.two(']', text, p.two('_', text, text)), one, one)));
        long made = bytesOf(p, 0);
        Check.same("texts make " + made + " bytes, at most 100000", made < 100000, true);
        Program q = new Program();
        int first = q.number(1);
        q.line(0, q.loop(0, first, first, q.text("999999"), 1));
        q.line(1, q.none('e'));
        int job = q.x.job(0);
        int look = q.two('_', q.two('_', q.two('_', q.text("ab"), q.local(0)), q.text("c")), q.local(0));
        long before = bytes();
        for (int call = 0; call < 250; call++) {
            q.x.run(job, 2);
            q.x.look(job, look);
        }
        long looked = bytes() - before;
        Check.same("looks make " + looked + " bytes, at most 100000", looked < 100000, true);
        int error = q.two('/', look, q.number(0));
        before = bytes();
        for (int call = 0; call < 250; call++) {
            q.x.run(job, 2);
            q.x.lookError(job, error);
        }
        looked = bytes() - before;
        Check.same("looks that are errors make " + looked + " bytes, at most 10000", looked < 10000, true);
    }
}
