import java.util.ArrayList;
import java.util.List;
import java.util.Random;

/** Random programs and calls, each done by the class and by the plain model: all answers have to be the same. */
public final class ModelTest {
    private static final String[] COMMAND_PROFILES = {
        "ssssskkmmiecdfzqwooIr", "sssggkiecdffzqwor", "BBCCRsskmGGGi", "llllusskooBC", "sssrrrddqqwwzzhffcc",
        "ssooFFFFqqdrwfz", "BCBCsGGGGkmI", "smmmkkss", "fffzzqdsow"
    };

    private static final String[] TAME_PROFILES = {"ssgggkmIG", "lllussooe", "sssgggkIlu", "ssdfqwcier", "sgIkmofd"};

    private final Random random;
    private final GlobalSpan real = new GlobalSpan();
    private final Model model = new Model();
    private final List<Integer> expressions = new ArrayList<>();
    private final List<Integer> references = new ArrayList<>();
    private final List<Integer> commands = new ArrayList<>();
    private final List<Integer> lists = new ArrayList<>();
    private final StringBuilder told = new StringBuilder();
    private final List<Integer> constants = new ArrayList<>();
    private boolean isTame;
    private int count;
    private int wrong;

    private ModelTest(long seed) {
        random = new Random(seed * 7919 + 13);
    }

    public static void main(String[] args) {
        int runs = args.length > 0 ? Integer.parseInt(args[0]) : 2000;
        long from = args.length > 1 ? Long.parseLong(args[1]) : 0;
        int[] seen = new int[256];
        for (long seed = from; seed < from + runs; seed++) {
            ModelTest test = new ModelTest(seed);
            test.go();
            for (Model.MJob job : test.model.jobs) {
                seen[job.error]++;
                seen[job.state]++;
                seen[1] += job.restarts;
            }
            if (test.wrong > 0) {
                System.out.println("seed " + seed + " is wrong; calls:\n" + test.told);
                System.exit(1);
            }
        }
        StringBuilder s = new StringBuilder();
        for (char c = 'a'; c <= 'z'; c++) {
            if (seen[c] > 0) {
                s.append(' ').append(c).append(':').append(seen[c]);
            }
        }
        System.out.println(runs + " random runs are as the model has them; states and errors seen:" + s
            + ", restarts: " + seen[1]);
    }

    private interface Call {
        Object make();
    }

    private static Object answer(Call call) {
        try {
            return call.make();
        } catch (RuntimeException e) {
            return "throws " + e.getClass().getSimpleName();
        }
    }

    private Object both(String what, Call one, Call other) {
        Object got = answer(one);
        Object due = answer(other);
        count++;
        if (told.length() < 200000) {
            told.append(what).append(" -> ").append(due).append('\n');
        }
        if (!got.equals(due)) {
            wrong++;
            told.append("   BUT answered ").append(got).append('\n');
        }
        return due;
    }

    private int node(char kind, int a, int b, int c) {
        Object due = both("node('" + kind + "', " + a + ", " + b + ", " + c + ")",
            () -> real.node(kind, a, b, c), () -> model.node(kind, a, b, c));
        return due instanceof Integer ? (Integer) due : -1;
    }

    private int any(List<Integer> list) {
        return list.get(random.nextInt(list.size()));
    }

    private int expression() {
        return any(expressions);
    }

    private int reference() {
        return any(references);
    }

    private void addExpression(int node) {
        if (node >= 0) {
            expressions.add(node);
        }
    }

    private void addReference(int node) {
        if (node >= 0) {
            references.add(node);
            expressions.add(node);
        }
    }

    private int listOf(List<Integer> from, int length) {
        int list = -1;
        for (int i = 0; i < length; i++) {
            int next = node(',', any(from), list, 0);
            if (next >= 0) {
                list = next;
            }
        }
        return list;
    }

    private void makeExpression() {
        String kinds = isTame ? "DDOOQQGIDOQG_+" : "+-*/%_=<>[]&|!DDOOOQQGILEPSTF#tEP__O";
        char kind = kinds.charAt(random.nextInt(kinds.length()));
        int a = expression();
        switch (kind) {
            case '#': a = random.nextInt(3) == 0 ? random.nextInt(2000001) - 1000000 : random.nextInt(9) - 2; break;
            case 't': a = random.nextInt(4) == 0 ? 0 : 40 + random.nextInt(60); break;
            case 'D': case 'O': case 'Q': case 'G': case 'I': a = reference(); break;
            case 'F': a = random.nextInt(4); break;
            default: break;
        }
        int b = expression();
        if (kind == 'F') {
            b = random.nextBoolean() ? -1 : listOf(expressions, 1 + random.nextInt(2));
        } else if (kind == 'O') {
            b = random.nextInt(2);
        } else if (kind == 't') {
            b = random.nextInt(3) == 0 ? 44 + random.nextInt(15) : 0;
        }
        addExpression(node(kind, a, b, kind == 't' ? 0 : expression()));
    }

    private void makeReference() {
        int way = random.nextInt(isTame ? 9 : 10);
        int length = random.nextInt(8) == 0 && !isTame ? 4 : random.nextInt(4);
        if (isTame) {
            List<Integer> subscripts = random.nextInt(9) == 0 ? expressions : constants;
            addReference(way == 8 ? node('n', listOf(subscripts, 1), 0, 0)
                : node(way < 2 ? 'v' : 'g', random.nextInt(2), listOf(subscripts, length), 0));
            return;
        }
        if (way < 3) {
            addReference(node('v', random.nextInt(3), listOf(expressions, length), 0));
        } else if (way < 8) {
            addReference(node('g', random.nextInt(2), listOf(expressions, length), 0));
        } else {
            addReference(node('n', listOf(expressions, Math.max(1, length - 1)), 0, 0));
        }
    }

    private void makeCommand(String profile) {
        char kind = profile.charAt(random.nextInt(profile.length()));
        int made;
        switch (kind) {
            case 'I': made = node('s', node('v', 7, -1, 0), node('I', reference(), expression(), 0), 0); break;
            case 'F': made = node('o', node('F', 1 + random.nextInt(3), -1, 0), 0, 0); break;
            case 'G': case 'g': made = node('s', node('v', random.nextInt(3), -1, 0), reference(), 0); break;
            case 's': made = node('s', reference(), expression(), 0); break;
            case 'k': made = node('k', reference(), 0, 0); break;
            case 'm': made = node('m', reference(), reference(), 0); break;
            case 'i': case 'o': made = node(kind, expression(), 0, 0); break;
            case 'c': made = commands.isEmpty() ? -1 : node('c', expression(), any(commands), 0); break;
            case 'd': made = node('d', random.nextInt(5), 0, 0); break;
            case 'f': made = node('f', random.nextInt(3), listOf(expressions, 3), random.nextInt(5)); break;
            case 'q': made = node('q', random.nextInt(3) == 0 ? -1 : expression(), 0, 0); break;
            case 'w': made = node('w', random.nextInt(258), 0, 0); break;
            case 'r': made = node('r', random.nextInt(6) - 1, 0, 0); break;
            case 'l': made = node('l', listOf(references, 1 + random.nextInt(2)),
                random.nextInt(2) == 0 ? -1 : expression(), 0); break;
            default: made = node(kind, 0, 0, 0); break;
        }
        if (made >= 0) {
            commands.add(made);
        }
    }

    private void tell() {
        String profile = COMMAND_PROFILES[random.nextInt(COMMAND_PROFILES.length)];
        isTame = random.nextBoolean();
        if (isTame) {
            profile = TAME_PROFILES[random.nextInt(TAME_PROFILES.length)];
        }
        for (int i = 0; i < 4; i++) {
            int constant = node('#', i, 0, 0);
            addExpression(constant);
            if (i > 0) {
                constants.add(constant);
            }
        }
        addExpression(node('#', -2 + random.nextInt(2), 0, 0));
        addExpression(node('t', 65, 0, 0));
        addExpression(node('t', 44 + random.nextInt(3), 48, random.nextInt(2) * 49));
        if (random.nextBoolean()) {
            addExpression(node('t', 0, 0, 0));
        }
        addReference(node('v', random.nextInt(2), -1, 0));
        addReference(node('g', random.nextInt(2), -1, 0));
        int most = 3 + random.nextInt(4);
        for (int i = 0; i < most; i++) {
            makeReference();
            makeExpression();
        }
        int all = 6 + random.nextInt(14);
        for (int i = 0; i < all; i++) {
            makeCommand(profile);
            if (random.nextInt(4) == 0) {
                makeExpression();
            }
        }
        if (commands.isEmpty()) {
            return;
        }
        int lines = 2 + random.nextInt(4);
        for (int line = 0; line < lines; line++) {
            tellLine(line);
        }
    }

    private void tellLine(int line) {
        if (commands.isEmpty()) {
            return;
        }
        int made = isTame && random.nextInt(3) > 0 ? transaction() : listOf(commands, 1 + random.nextInt(7));
        int trap = random.nextInt(3) > 0 ? node('r', random.nextInt(5), 0, 0) : -1;
        int list = trap >= 0 ? behind(List.of(trap), made) : made;
        lists.add(list);
        int number = random.nextInt(5) == 0 && !lists.isEmpty() ? any(lists) : list;
        both("line(" + line + ", " + number + ")", () -> real.line(line, number), () -> model.line(line, number));
    }

    /** Some commands in a transaction, with perhaps another one within it. */
    private int transaction() {
        List<Integer> end = List.of(node(random.nextInt(9) == 0 ? 'R' : 'C', 0, 0, 0));
        List<Integer> begin = List.of(node('B', 0, 0, 0));
        int list = random.nextBoolean() ? listOf(commands, random.nextInt(3)) : -1;
        int inner = random.nextInt(7);
        list = behind(end, list);
        for (int i = 1 + random.nextInt(5); i > 0; i--) {
            list = behind(commands, list);
            if (i == inner) {
                list = behind(end, list);
            }
        }
        return behind(begin, inner > 0 && inner < 6 && random.nextBoolean() ? behind(begin, list) : list);
    }

    private int behind(List<Integer> parts, int list) {
        int made = node(',', any(parts), list, 0);
        return made >= 0 ? made : list;
    }

    private void wrongNode() {
        String kinds = ",#tvgn+-*/%_=<>[]&|!DOQGILEPSTFskmiecdfzqworhluBCRaA? ";
        char kind = kinds.charAt(random.nextInt(kinds.length()));
        int most = model.nodes.size() + 2;
        node(kind, random.nextInt(most + 2) - 2, random.nextInt(most + 2) - 2, random.nextInt(most + 2) - 2);
    }

    private void randomCall() {
        int job = random.nextInt(12) == 0 ? random.nextInt(5) - 1 : random.nextInt(Math.max(1, model.jobs.size()));
        int node = random.nextInt(10) == 0 ? random.nextInt(130) - 2 : expression();
        int number = random.nextInt(8) == 0 ? random.nextInt(250) - 5 : 1 + random.nextInt(random.nextInt(3) == 0 && !isTame ? 60 : isTame ? 2 : 4);
        switch (random.nextInt(26)) {
            case 0: both("flush()", real::flush, model::flush); break;
            case 1:
                if (random.nextInt(3) == 0) {
                    both("image()", real::image, model::image);
                }
                break;
            case 2:
                if (random.nextInt(6) == 0) {
                    both("crash()", real::crash, model::crash);
                }
                break;
            case 3: both("follow(" + number + ")", () -> real.follow(number), () -> model.follow(number)); break;
            case 4:
                if (random.nextInt(4) == 0) {
                    wrongNode();
                } else if (random.nextInt(4) == 0) {
                    tellLine(random.nextInt(5));
                } else if (random.nextInt(4) == 0) {
                    both("line(" + number + ", " + node + ")", () -> real.line(number, node), () -> model.line(number, node));
                }
                break;
            case 5: case 6: case 7: case 8:
                both("look(" + job + ", " + node + ")", () -> real.look(job, node), () -> model.look(job, node));
                both("lookNumber()", real::lookNumber, model::lookNumber);
                for (int i = -1; i < 41; i++) {
                    int index = i;
                    both("lookAt(" + i + ")", () -> real.lookAt(index), () -> model.lookAt(index));
                }
                break;
            case 9: case 10:
                both("lookError(" + job + ", " + node + ")", () -> real.lookError(job, node), () -> model.lookError(job, node));
                break;
            case 11:
                if (random.nextInt(3) == 0) {
                    int line = random.nextInt(6) - random.nextInt(2);
                    both("job(" + line + ")", () -> real.job(line), () -> model.job(line));
                }
                break;
            default:
                both("run(" + job + ", " + number + ")", () -> real.run(job, number), () -> model.run(job, number));
                break;
        }
    }

    private void go() {
        tell();
        int first = 1 + random.nextInt(3);
        for (int i = 0; i < first; i++) {
            int line = random.nextInt(3);
            both("job(" + line + ")", () -> real.job(line), () -> model.job(line));
        }
        int calls = 20 + random.nextInt(60);
        for (int i = 0; i < calls && wrong == 0; i++) {
            randomCall();
            compareAll();
        }
    }

    private void compareAll() {
        int mark = told.length();
        for (int j = -1; j <= model.jobs.size(); j++) {
            int job = j;
            both("state(" + j + ")", () -> real.state(job), () -> model.state(job));
            both("error(" + j + ")", () -> real.error(job), () -> model.error(job));
            both("truth(" + j + ")", () -> real.truth(job), () -> model.truth(job));
            both("depth(" + j + ")", () -> real.depth(job), () -> model.depth(job));
            both("steps(" + j + ")", () -> real.steps(job), () -> model.steps(job));
            both("output(" + j + ")", () -> real.output(job), () -> model.output(job));
            both("locks(" + j + ")", () -> real.locks(job), () -> model.locks(job));
            both("isDeadlocked(" + j + ")", () -> real.isDeadlocked(job), () -> model.isDeadlocked(job));
            both("waitsFor(" + j + ")", () -> real.waitsFor(job), () -> model.waitsFor(job));
            both("level(" + j + ")", () -> real.level(job), () -> model.level(job));
            both("restarts(" + j + ")", () -> real.restarts(job), () -> model.restarts(job));
            int last = job >= 0 && job < model.jobs.size() ? model.jobs.get(job).out.length() : 0;
            for (int i = Math.max(-1, last - 5); i <= last; i++) {
                int index = i;
                both("outputAt(" + j + ", " + i + ")", () -> real.outputAt(job, index), () -> model.outputAt(job, index));
            }
            if (job >= 0 && job < model.jobs.size()) {
                compareLocals(job);
            }
        }
        for (int g = -1; g < 5; g++) {
            int global = g;
            both("nodes(" + g + ")", () -> real.nodes(global), () -> model.nodes(global));
        }
        both("written()", real::written, model::written);
        both("journal()", real::journal, model::journal);
        both("lag()", real::lag, model::lag);
        both("isSame()", real::isSame, model::isSame);
        both("checksum()", real::checksum, model::checksum);
        both("doneShare()", real::doneShare, model::doneShare);
        both("meanSteps()", real::meanSteps, model::meanSteps);
        both("isSound()", real::isSound, model::isSound);
        if (wrong == 0) {
            told.setLength(mark);
        }
    }

    /** All references, as the job sees them. */
    private void compareLocals(int job) {
        for (int node : references) {
            both("look(" + job + ", " + node + ")", () -> real.look(job, node), () -> model.look(job, node));
            both("lookNumber()", real::lookNumber, model::lookNumber);
        }
    }
}
