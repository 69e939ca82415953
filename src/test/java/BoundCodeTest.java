/**
 * The boundaries in the sentences of 'Terms' on nodes of code, expressions, commands, errors and jobs, each at the
 * boundary and on both sides of it. The sentence stands ahead of its test.
 */
public final class BoundCodeTest {
    private BoundCodeTest() {
    }

    public static void main(String[] args) {
        hundredTwenty();
        earlierNodes();
        lists();
        deep();
        deepLists();
        numbers();
        characters();
        linesOfNodes();
        dividedCut();
        compared();
        contained();
        behindByCharacters();
        bothDone();
        dataOf();
        orderOf();
        queryOf();
        gets();
        increases();
        lengths();
        places();
        pieces();
        chosen();
        eightParts();
        givenNothing();
        callIsNoStep();
        ifElse();
        loopsUp();
        loopSteps();
        loopParts();
        loopLocals();
        innermost();
        quits();
        savedBits();
        twoHundredCharacters();
        traps();
        trapIsGone();
        errorsOfFrames();
        tenFrames();
        tenFramesOfCalls();
        twoHundredCommands();
        callsWithin();
        threeJobs();
        emptyLines();
        commandIsStep();
        states();
        endings();
        errorsOfCommands();
        withoutMeaning();
        loopsBehindCalls();
        partsOfManyCalls();
        Check.finish("BoundCodeTest");
    }

    private static void due(String what, Object got, Object due) {
        Check.same(what, got, due);
    }

    private static void refused(String what, Check.Call call) {
        Check.fails(what, IllegalArgumentException.class, call);
    }

    /** "At most 120 nodes are numbered from 0" */
    private static void hundredTwenty() {
        GlobalSpan x = new GlobalSpan();
        for (int i = 0; i < 120; i++) {
            due("node " + i, x.node(i % 2 == 0 ? 'h' : '#', i, 0, 0), i);
        }
        for (char kind : new char[] {'h', '#', 'T', 'z'}) {
            Check.fails("the 121st node", IllegalStateException.class, () -> x.node(kind, 0, 0, 0));
        }
        refused("a wrong one", () -> x.node('#', 1000000, 0, 0));
        refused("of no kind", () -> x.node('x', 0, 0, 0));
        due("the last one is there", x.line(0, -1), -1);
        x.job(0);
        due("its value", x.look(0, 119), 3);
        due("its number", x.lookNumber(), 119);
        refused("there is no more", () -> x.look(0, 120));
    }

    /** "parts are earlier nodes" */
    private static void earlierNodes() {
        for (int part = -1; part <= 4; part++) {
            Program p = new Program();
            p.number(0);
            p.number(1);
            p.number(2);
            int at = part;
            if (part >= 0 && part <= 2) {
                due("part " + part, p.of('!', at, 0, 0), 3);
            } else {
                refused("part " + part, () -> p.of('!', at, 0, 0));
            }
        }
        Program p = new Program();
        p.number(0);
        refused("itself", () -> p.of('!', 1, 0, 0));
        refused("the next one", () -> p.of('!', 2, 0, 0));
        due("the one ahead", p.of('!', 0, 0, 0), 1);
        refused("b itself", () -> p.of('+', 0, 2, 0));
        refused("c itself", () -> p.of('S', 0, 1, 2));
        due("c ahead", p.of('S', 0, 1, 1), 2);
        refused("the greatest number", () -> p.of('!', Integer.MAX_VALUE, 0, 0));
        refused("the least number", () -> p.of('+', 0, Integer.MIN_VALUE, 0));
        refused("a list itself", () -> p.of(',', 0, 3, 0));
    }

    /** "Lists are ',' with a part a and perhaps, else -1, the list b behind it, all parts being expressions, or all commands." */
    private static void lists() {
        Program p = new Program();
        int one = p.number(1);
        int halt = p.none('h');
        int ones = p.of(',', one, -1, 0);
        int halts = p.of(',', halt, -1, 0);
        refused("no part", () -> p.of(',', -1, -1, 0));
        refused("a list as a part", () -> p.of(',', ones, -1, 0));
        refused("b -2", () -> p.of(',', one, -2, 0));
        refused("b an expression", () -> p.of(',', one, one, 0));
        refused("b a command", () -> p.of(',', halt, halt, 0));
        refused("an expression ahead of commands", () -> p.of(',', one, halts, 0));
        refused("a command ahead of expressions", () -> p.of(',', halt, ones, 0));
        due("both of expressions", p.of(',', one, ones, 0) > 0, true);
        due("both of commands", p.of(',', halt, halts, 0) > 0, true);
        refused("subscripts of commands", () -> p.of('v', 0, halts, 0));
        refused("naked with commands", () -> p.of('n', halts, 0, 0));
        refused("naked without a list", () -> p.of('n', -1, 0, 0));
        refused("naked with a part", () -> p.of('n', one, 0, 0));
        due("naked with a list", p.of('n', ones, 0, 0) > 0, true);
        refused("a call with commands", () -> p.of('F', 0, halts, 0));
        Check.fails("a line of expressions", UnsupportedOperationException.class, () -> p.x.line(0, ones));
        due("a line of commands", p.x.line(0, halts), -1);
    }

    /** "The depth of a node is 1, or 1 more than the greatest one of its parts, .. no node is deeper than 12." */
    private static void deep() {
        for (int depth = 10; depth <= 12; depth++) {
            Program p = new Program();
            int one = p.number(1);
            int local = p.local(0);
            int halt = p.none('h');
            int node = one;
            int command = halt;
            for (int i = 2; i <= depth; i++) {
                node = p.one('!', node);
                command = p.two('c', one, command);
            }
            int at = node;
            int done = command;
            int list = depth < 12 ? p.list(at) : -1;
            deeper(depth + 1, "!", () -> p.one('!', at));
            deeper(depth + 1, "+ a", () -> p.two('+', at, one));
            deeper(depth + 1, "_ b", () -> p.two('_', one, at));
            deeper(depth + 1, "S c", () -> p.of('S', one, one, at));
            deeper(depth + 1, "E b", () -> p.of('E', one, at, one));
            deeper(depth + 1, "G b", () -> p.two('G', local, at));
            deeper(depth + 1, "I b", () -> p.two('I', local, at));
            deeper(depth + 1, "s b", () -> p.set(local, at));
            deeper(depth + 1, "o", () -> p.show(at));
            deeper(depth + 1, "q", () -> p.one('q', at));
            deeper(depth + 1, "i", () -> p.one('i', at));
            deeper(depth + 1, "c a", () -> p.two('c', at, halt));
            deeper(depth + 1, "c b", () -> p.two('c', one, done));
            deeper(depth + 1, "l b", () -> p.of('l', p.list(local), at, 0));
            deeper(depth + 1, "a list", () -> p.list(at));
            deeper(depth + 1, "a list of commands", () -> p.list(done));
            if (list >= 0) {
                deeper(depth + 2, "v", () -> p.of('v', 0, list, 0));
                deeper(depth + 2, "g", () -> p.of('g', 0, list, 0));
                deeper(depth + 2, "n", () -> p.of('n', list, 0, 0));
                deeper(depth + 2, "F", () -> p.of('F', 0, list, 0));
            }
        }
        Program p = new Program();
        int node = p.number(1);
        for (int i = 2; i <= 12; i++) {
            node = p.one('!', node);
        }
        due("twelve deep", p.value(node), "0");
        int deepest = node;
        refused("a wrong one first", () -> p.two('+', deepest, 120));
        due("-1 is no part", p.one('q', -1) > 0, true);
        due("lines are no parts", p.of('d', deepest - 11, 0, 0) > 0, true);
        due("numbers are no parts", p.of('#', deepest, deepest, deepest) > 0, true);
    }

    private static void deeper(int depth, String what, Check.Call call) {
        if (depth > 12) {
            Check.fails(what + " of depth " + depth, IllegalStateException.class, call);
        } else {
            due(what + " of depth " + depth, (Integer) call.make() > 0, true);
        }
    }

    /** "a list b behind another part counting as it is" */
    private static void deepLists() {
        for (int depth = 9; depth <= 11; depth++) {
            Program p = new Program();
            int one = p.number(1);
            int node = p.local(0);
            for (int i = 2; i <= depth; i++) {
                node = p.two('_', one, node);
            }
            int list = p.list(node);
            int same = p.of(',', one, p.of(',', one, list, 0), 0);
            deeper(depth + 2, "the list", () -> p.of('v', 0, list, 0));
            deeper(depth + 2, "the list behind others", () -> p.of('n', same, 0, 0));
            int loops = p.list(node, one, one);
            int last = p.list(one, one, node);
            deeper(depth + 2, "a loop", () -> p.of('f', 0, loops, 0));
            deeper(depth + 2, "a loop to it", () -> p.of('f', 0, last, 0));
        }
        for (int depth = 10; depth <= 12; depth++) {
            Program p = new Program();
            int one = p.number(1);
            int inner = one;
            for (int i = 2; i <= depth - 3; i++) {
                inner = p.one('!', inner);
            }
            int references = p.list(p.local(0, inner));
            deeper(depth + 1, "locks", () -> p.of('l', references, -1, 0));
        }
        Program p = new Program();
        int list = -1;
        int one = p.none('e');
        for (int i = 0; i < 60; i++) {
            list = p.of(',', one, list, 0);
        }
        due("a long list of commands", p.x.line(0, list), -1);
        due("is done", p.x.run(p.x.job(0), 200), 60);
    }

    /** "'#' the number a, -999999 to 999999" */
    private static void numbers() {
        int[] fine = {-999999, -999998, -1, 0, 1, 999998, 999999};
        int[] wrong = {-1000000, 1000000, Integer.MIN_VALUE, Integer.MAX_VALUE, 999999999};
        Program p = new Program();
        for (int number : fine) {
            due("number " + number, p.value(p.number(number)), String.valueOf(number));
        }
        for (int number : wrong) {
            refused("number " + number, () -> p.number(number));
        }
    }

    /** "'t' the text of the characters a, b and c, 32 to 126, 0 for none" */
    private static void characters() {
        int[] fine = {32, 33, 125, 126};
        int[] wrong = {-1, 1, 31, 127, 128, 255, 256, Integer.MAX_VALUE, Integer.MIN_VALUE};
        Program p = new Program();
        for (int sign : fine) {
            String s = String.valueOf((char) sign);
            due("a " + sign, p.value(p.of('t', sign, 0, 0)), s);
            due("b " + sign, p.value(p.of('t', 0, sign, 0)), s);
            due("c " + sign, p.value(p.of('t', 'x', 0, sign)), "x" + s);
        }
        for (int sign : wrong) {
            refused("a " + sign, () -> p.of('t', sign, 65, 65));
            refused("b " + sign, () -> p.of('t', 65, sign, 65));
            refused("c " + sign, () -> p.of('t', 65, 65, sign));
        }
        due("none", p.value(p.of('t', 0, 0, 0)), "");
        due("all", p.value(p.of('t', '-', '4', '2')), "-42");
        due("the number of it", p.value(p.two('+', p.of('t', '-', '4', '2'), p.number(1))), "-41");
        due("a number by characters", p.value(p.two('=', p.of('t', '4', 0, '2'), p.number(42))), "1");
    }

    /** Lines that operands name are 0 to 19. */
    private static void linesOfNodes() {
        Program p = new Program();
        int one = p.number(1);
        int loop = p.list(one, one, one);
        int[] fine = {0, 1, 18, 19};
        int[] wrong = {-2, 20, 21, Integer.MIN_VALUE, Integer.MAX_VALUE};
        for (int line : fine) {
            due("lines", p.of('d', line, 0, 0) + p.of('r', line, 0, 0) + p.of('F', line, -1, 0) + p.of('f', 0, loop, line) > 0, true);
        }
        for (int line : wrong) {
            refused("d " + line, () -> p.of('d', line, 0, 0));
            refused("r " + line, () -> p.of('r', line, 0, 0));
            refused("F " + line, () -> p.of('F', line, -1, 0));
            refused("f " + line, () -> p.of('f', 0, loop, line));
        }
        refused("d -1", () -> p.of('d', -1, 0, 0));
        refused("F -1", () -> p.of('F', -1, -1, 0));
        refused("f -1", () -> p.of('f', 0, loop, -1));
        due("r -1", p.of('r', -1, 0, 0) > 0, true);
        refused("f of local -1", () -> p.of('f', -1, loop, 0));
        refused("f of local 8", () -> p.of('f', 8, loop, 0));
        due("f of local 7", p.of('f', 7, loop, 0) > 0, true);
    }

    /** "'/' divided, cut, and '%' the rest of that, the error 'z' for 0" */
    private static void dividedCut() {
        int[] left = {7, -7, 7, -7, 6, 5, 0, 1, -1, 1};
        int[] right = {3, 3, -3, -3, 3, 6, 5, 1, 1, -1};
        for (int i = 0; i < left.length; i++) {
            Program p = new Program();
            int a = p.number(left[i]);
            int b = p.number(right[i]);
            due(left[i] + " / " + right[i], p.value(p.two('/', a, b)), String.valueOf(left[i] / right[i]));
            due(left[i] + " % " + right[i], p.value(p.two('%', a, b)), String.valueOf(left[i] % right[i]));
        }
        for (String zero : new String[] {"0", "", "a", "-", "-0", "00", "0000000001"}) {
            Program p = new Program();
            due("1 / " + zero, p.value(p.two('/', p.number(1), p.text(zero))), "error z");
            due("0 % " + zero, p.value(p.two('%', p.number(0), p.text(zero))), "error z");
        }
        Program p = new Program();
        due("by what is nearly 0", p.value(p.two('/', p.number(5), p.text("-1x"))), "-5");
    }

    /** "'=' whether they are the same texts, '<' and '>' whether the number of a is less, or greater" */
    private static void compared() {
        String[] texts = {"-2", "-1", "0", "1", "2", "10", "2a", "a", "", "02"};
        int[] numbers = {-2, -1, 0, 1, 2, 10, 2, 0, 0, 2};
        for (int i = 0; i < texts.length; i++) {
            for (int j = 0; j < texts.length; j++) {
                Program p = new Program();
                int a = p.text(texts[i]);
                int b = p.text(texts[j]);
                String what = texts[i] + " and " + texts[j];
                due("= " + what, p.value(p.two('=', a, b)), i == j ? "1" : "0");
                due("< " + what, p.value(p.two('<', a, b)), numbers[i] < numbers[j] ? "1" : "0");
                due("> " + what, p.value(p.two('>', a, b)), numbers[i] > numbers[j] ? "1" : "0");
                due("& " + what, p.value(p.two('&', a, b)), numbers[i] != 0 && numbers[j] != 0 ? "1" : "0");
                due("| " + what, p.value(p.two('|', a, b)), numbers[i] != 0 || numbers[j] != 0 ? "1" : "0");
            }
        }
    }

    /** "'[' whether a contains b" */
    private static void contained() {
        String[] texts = {"", "a", "b", "ab", "abc", "bc", "c", "abcd", "ac", "12", "2", "-1", "-12", "aab"};
        for (String a : texts) {
            for (String b : texts) {
                Program p = new Program();
                due(a + " contains " + b, p.value(p.two('[', p.text(a), p.text(b))), a.contains(b) ? "1" : "0");
            }
        }
        Program p = new Program();
        int whole = p.letters(40);
        due("all of it", p.value(p.two('[', whole, whole)), "1");
        due("its end", p.value(p.two('[', whole, p.of('E', whole, p.number(40), p.number(40)))), "1");
    }

    /** "']' whether a comes behind b by characters" */
    private static void behindByCharacters() {
        String[] texts = {"", "-1", "-2", "0", "10", "2", "9", "A", "a", "aa", "ab", "b", " ", "~"};
        for (String a : texts) {
            for (String b : texts) {
                Program p = new Program();
                due(a + " comes behind " + b, p.value(p.two(']', p.text(a), p.text(b))), a.compareTo(b) > 0 ? "1" : "0");
            }
        }
    }

    /** "Of two parts, a is done first, then b"; "'&' and '|' of truths, both parts being done" */
    private static void bothDone() {
        for (char kind : "+-*/%_=<>[]&|".toCharArray()) {
            Program p = new Program();
            int one = p.number(1);
            int count = p.local(0);
            int first = p.two('_', p.two('I', count, one), p.text(""));
            int second = p.two('*', p.two('I', count, one), p.number(10));
            p.line(0, p.set(p.local(1, p.number(1)), one));
            int job = p.ran(2, p.set(p.local(2), p.two(kind, first, second)), p.set(p.local(3), p.two(kind, p.number(0), second)));
            due("both parts of " + kind, p.looked(job, count), "3");
            due("done", p.x.state(job), 'd');
            due("a first of " + kind, p.value(p.two(kind, p.two('/', one, p.number(0)), p.naked(one))), "error z");
            due("then b of " + kind, p.value(p.two(kind, one, p.naked(one))), "error n");
        }
        Program p = new Program();
        int count = p.local(0);
        int up = p.two('I', count, p.number(1));
        due("1 - 2", p.shownBy(p.two('-', up, up)), "-1");
        due("1 then 2", p.shownBy(p.two('_', up, up)), "12");
        due("1 and its place", p.shownBy(p.of('E', p.text("abcdef"), up, p.two('+', up, up))), "abcde");
    }

    /** "'D' of the reference a: 1 if it has a value, and 10 more if something is below it" */
    private static void dataOf() {
        String[] due = {"0", "1", "10", "11"};
        for (int what = 0; what < 4; what++) {
            for (int length = 0; length <= 3; length++) {
                Program p = new Program();
                int[] row = new int[length];
                java.util.Arrays.fill(row, p.number(5));
                int[] more = java.util.Arrays.copyOf(row, length + 1);
                more[length] = p.text("x");
                int none = p.two('c', p.number(0), p.none('h'));
                int own = p.set(p.global(1, row), p.text(""));
                int below = length < 3 ? p.set(p.global(1, more), p.number(1)) : none;
                int job = p.ran(2, what % 2 == 1 ? own : none, what >= 2 ? below : none);
                int expected = length == 3 ? what % 2 : what;
                due("D at " + length, p.looked(job, p.one('D', p.global(1, row))), due[expected]);
            }
        }
        Program p = new Program();
        int one = p.number(1);
        int job = p.ran(1, p.set(p.local(0, one, one, one), one));
        due("two below", p.looked(job, p.one('D', p.local(0))), "10");
        due("beside", p.looked(job, p.one('D', p.local(0, p.number(2)))), "0");
        due("another name", p.looked(job, p.one('D', p.local(1))), "0");
    }

    /** "'O' .. needs a subscript, else it is the error 's', and may have an empty last one: .." */
    private static void orderOf() {
        Program p = new Program();
        int one = p.number(1);
        int empty = p.text("");
        due("no subscript", p.value(p.two('O', p.local(0), 0)), "error s");
        due("no subscript, back", p.value(p.two('O', p.global(0), 1)), "error s");
        due("an empty one of nothing", p.value(p.two('O', p.local(0, empty), 0)), "");
        due("an empty one of nothing, back", p.value(p.two('O', p.local(0, empty), 1)), "");
        due("a fourth empty one", p.value(p.two('O', p.local(0, one, one, one, empty), 0)), "error s");
        due("an empty one ahead of another", p.value(p.two('O', p.local(0, empty, empty), 0)), "error s");
        for (int depth = 1; depth <= 3; depth++) {
            for (int below = 0; below <= 3 - depth; below++) {
                orderAt(depth, below);
            }
        }
    }

    /** Subscripts at a depth that have something so far below; the first and the last one have it at once. */
    private static void orderAt(int depth, int below) {
        Program p = new Program();
        int[] names = {p.number(3), p.number(5), p.text("a")};
        int value = p.number(7);
        int[] sets = new int[3];
        for (int i = 0; i < 3; i++) {
            int[] row = new int[depth + below];
            java.util.Arrays.fill(row, p.number(4));
            row[depth - 1] = names[i];
            sets[i] = p.set(p.global(2, row), value);
        }
        int job = p.ran(4, p.set(p.global(2), value), sets[0], sets[1], sets[2]);
        String[] from = {"", "2", "3", "4", "5", "6", "a", "b"};
        String[] next = {"3", "3", "5", "5", "a", "a", "", ""};
        String[] ahead = {"a", "", "", "3", "3", "5", "5", "a"};
        for (int i = 0; i < from.length; i++) {
            int[] row = new int[depth];
            java.util.Arrays.fill(row, p.number(4));
            row[depth - 1] = p.text(from[i]);
            int node = p.global(2, row);
            String what = from[i] + " at " + depth + " with " + below;
            due("behind " + what, p.looked(job, p.two('O', node, 0)), next[i]);
            due("ahead of " + what, p.looked(job, p.two('O', node, 1)), ahead[i]);
        }
    }

    /** "'Q' of the reference a: the next node of its tree that has a value .. the empty text if there is none" */
    private static void queryOf() {
        Program p = new Program();
        int one = p.number(1);
        int two = p.number(2);
        int job = p.ran(3, p.set(p.local(1, two, two), one), p.set(p.local(2), one), p.set(p.local(0, two, two, two), one));
        due("a name without values", p.looked(job, p.one('Q', p.local(3))), "");
        due("a name alone", p.looked(job, p.one('Q', p.local(2))), "");
        due("the last name", p.looked(job, p.one('Q', p.local(7))), "");
        due("two down", p.looked(job, p.one('Q', p.local(1))), "2,2");
        due("three down", p.looked(job, p.one('Q', p.local(0))), "2,2,2");
        due("ahead of it", p.looked(job, p.one('Q', p.local(1, two, one))), "2,2");
        due("above it", p.looked(job, p.one('Q', p.local(1, two))), "2,2");
        due("at it", p.looked(job, p.one('Q', p.local(1, two, two))), "");
        due("below it", p.looked(job, p.one('Q', p.local(1, two, two, two))), "");
        due("behind it", p.looked(job, p.one('Q', p.local(1, two, p.number(3)))), "");
    }

    /** "'G' the value of the reference a, or of the expression b, done then alone, if it has none." */
    private static void gets() {
        Program p = new Program();
        int one = p.number(1);
        int count = p.local(1);
        int get = p.two('G', p.local(0), p.two('I', count, one));
        int job = p.ran(3, p.set(p.local(0), p.text("")), p.show(get), p.show(p.two('_', p.text("("), get)));
        due("an empty value is one", p.shown(job), "(");
        due("b is not done", p.looked(job, p.one('D', count)), "0");
        int other = p.ran(1, p.show(get));
        due("no value", p.shown(other), "1");
    }

    /** "'I' gives the reference a the sum of its number, as it is behind b, and that of the expression b, .." */
    private static void increases() {
        Program p = new Program();
        int one = p.number(1);
        int local = p.local(0);
        int job = p.ran(4, p.show(p.two('I', local, p.text("-3x"))), p.show(p.two('I', local, p.two('I', local, one))),
            p.show(p.two('I', p.local(0, p.two('I', p.local(1), one)), p.local(1))), p.show(p.two('I', local, p.text(""))));
        due("sums", p.shown(job), "-3-41-4");
        due("the subscript ahead of b", p.looked(job, p.local(0, one)), "1");
        Program q = new Program();
        int first = q.number(1);
        int other = q.ran(3, q.set(q.local(0), q.text("7 apples")), q.show(q.two('I', q.local(0), q.number(0))), q.trap(-1));
        due("a value becomes its number", q.looked(other, q.local(0)) + q.shown(other), "77");
        due("b is an error", q.shownBy(q.two('I', q.local(1), q.two('/', first, q.number(0)))), "error z");
        due("then nothing is given", q.looked(1, q.one('D', q.local(1))), "0");
    }

    /** "'L' the length of a" */
    private static void lengths() {
        for (int length : new int[] {0, 1, 2, 39, 40}) {
            Program p = new Program();
            due("L of " + length, p.value(p.one('L', p.letters(length))), String.valueOf(length));
        }
        Program p = new Program();
        due("L of a number", p.value(p.one('L', p.number(-120))), "4");
        due("L of 0", p.value(p.one('L', p.number(0))), "1");
        due("L of nine digits", p.value(p.one('L', p.text("-999999999"))), "10");
    }

    /** "'E' the characters of a from place b to place c, the first one being 1, as many as there are of these" */
    private static void places() {
        String text = "abcd";
        for (int from = -1; from <= 6; from++) {
            Program p = new Program();
            int node = p.text(text);
            for (int to = -1; to <= 6; to++) {
                StringBuilder due = new StringBuilder();
                for (int place = 1; place <= 4; place++) {
                    due.append(place >= from && place <= to ? text.substring(place - 1, place) : "");
                }
                due("E from " + from + " to " + to, p.value(p.of('E', node, p.number(from), p.number(to))), due.toString());
            }
        }
        Program p = new Program();
        int forty = p.letters(40);
        int most = p.text("999999999");
        due("from 40", p.value(p.of('E', forty, p.number(40), most)), "h");
        due("from 41", p.value(p.of('E', forty, p.number(41), most)), "");
        due("from the least", p.value(p.of('E', forty, p.text("-999999999"), p.number(1))), "a");
        due("to the least", p.value(p.of('E', forty, p.number(1), p.text("-999999999"))), "");
        due("from the greatest", p.value(p.of('E', forty, most, most)), "");
        due("of the empty text", p.value(p.of('E', p.text(""), p.number(0), p.number(1))), "");
    }

    /** "'P' of the text a the piece c by the text b, from 1: what stands between this text, the error 'p' if that is empty" */
    private static void pieces() {
        String[] texts = {"", "a", "aXb", "Xa", "aX", "X", "aXXb", "aXbXc", "aXbXX"};
        for (String text : texts) {
            Program p = new Program();
            int node = p.text(text);
            int by = p.text("X");
            String[] pieces = text.split("X", -1);
            for (int i = -1; i <= 5; i++) {
                String due = i >= 1 && i <= pieces.length ? pieces[i - 1] : "";
                due("piece " + i + " of " + text, p.value(p.of('P', node, by, p.number(i))), due);
            }
        }
        Program p = new Program();
        int one = p.number(1);
        int empty = p.text("");
        due("by the empty text", p.value(p.of('P', p.text("a"), empty, one)), "error p");
        due("of the empty text by it", p.value(p.of('P', empty, empty, one)), "error p");
        due("the piece 0 by it", p.value(p.of('P', empty, empty, p.number(0))), "error p");
        due("by what is longer", p.value(p.of('P', p.text("a"), p.text("ab"), one)), "a");
        due("by all of it", p.value(p.of('P', p.text("ab"), p.text("ab"), p.number(2))), "");
        due("by numbers", p.value(p.of('P', p.number(10203), p.number(0), p.number(3))), "3");
        due("of overlaps", p.value(p.of('P', p.text("aaa"), p.text("aa"), p.number(2))), "a");
        due("a great piece", p.value(p.of('P', p.text("a"), p.text("b"), p.text("999999999"))), "");
    }

    /** "'S' if a then b, else c, the other one not being done." */
    private static void chosen() {
        for (int truth = -1; truth <= 1; truth++) {
            Program p = new Program();
            int one = p.number(1);
            int job = p.ran(1, p.show(p.of('S', p.number(truth), p.two('I', p.local(0), one), p.two('I', p.local(1), one))));
            due("b", p.looked(job, p.local(0)), truth != 0 ? "1" : "");
            due("c", p.looked(job, p.local(1)), truth == 0 ? "1" : "");
        }
    }

    /** ".. the locals 0, 1 and so on with these, empty ones too, those behind the eighth being left out" */
    private static void eightParts() {
        for (int count = 0; count <= 10; count++) {
            Program p = new Program();
            int one = p.number(1);
            int[] parts = new int[count];
            for (int i = 0; i < count; i++) {
                parts[i] = i == 3 ? p.text("") : p.two('+', p.two('I', p.global(0), one), one);
            }
            int all = p.one('D', p.local(7));
            for (int i = 6; i >= 0; i--) {
                all = p.two('_', p.one('D', p.local(i)), all);
            }
            p.line(0, p.one('q', p.two('_', all, p.local(7))));
            int job = p.ran(2, p.set(p.local(5), one), p.show(p.call(0, parts)));
            String due = "11111111".substring(0, Math.min(8, count)) + "00000000".substring(Math.min(8, count));
            due("locals of a call with " + count, p.shown(job), due + (count >= 8 ? "8" : ""));
            due("all parts are done", p.looked(job, p.global(0)), count == 0 ? "" : String.valueOf(count > 3 ? count - 1 : count));
            due("its own local is back", p.looked(job, p.local(5)), "1");
            due("others too", p.looked(job, p.one('D', p.local(0))), "0");
        }
    }

    /** ".. the expression is what a quit of this frame gives; the error 'q' if it gives nothing." */
    private static void givenNothing() {
        String[] due = {"error q", "error q", "", "error q", "1", "2", "error q"};
        for (int line = 0; line <= 6; line++) {
            Program p = new Program();
            p.line(1, p.one('q', -1));
            p.line(2, p.one('q', p.text("")));
            p.line(3, p.of('d', 4, 0, 0));
            p.line(4, p.one('q', p.number(1)));
            p.line(5, p.of('d', 4, 0, 0), p.one('q', p.number(2)));
            p.line(6, p.show(p.number(1)));
            p.line(7, p.show(p.text("(")), p.trap(8), p.show(p.call(line)), p.show(p.text(")")));
            p.line(8, p.show(p.text("!")));
            due("what line " + line + " gives", p.shownBy(p.call(line)), due[line]);
            int job = p.x.job(7);
            p.x.run(job, 9);
            String shown = due[line].startsWith("e") ? "(" + (line == 6 ? "1" : "") + "!" : "(" + due[line] + ")";
            due("a trap for line " + line, p.shown(job), shown);
        }
    }

    /** "it is done at once till its end, its commands being no steps of the job" */
    private static void callIsNoStep() {
        Program p = new Program();
        int one = p.number(1);
        p.line(0, p.set(p.global(0), one), p.set(p.global(1), one), p.one('i', one), p.one('q', p.number(4)));
        int job = p.job(p.show(p.call(0)), p.show(p.call(0)));
        due("one step", p.x.run(job, 1), 1);
        due("of the job", p.x.steps(job), 1);
        due("all is done", p.x.nodes(0) + p.x.nodes(1), 2);
        due("no frame stays", p.x.depth(job), 1);
        due("the truth stays", p.x.truth(job), 1);
        due("shown", p.shown(job), "4");
    }

    /** "'i' the truth becomes whether a is true; if not, the rest of the line is left out; 'e' .. if the truth is 1" */
    private static void ifElse() {
        for (int first = 0; first <= 1; first++) {
            Program p = new Program();
            int a = p.show(p.text("a"));
            p.line(0, p.one('i', p.number(first)), a);
            p.line(1, p.none('e'), p.show(p.text("b")));
            p.line(2, p.two('c', p.number(1), p.one('i', p.number(first))), p.show(p.text("c")));
            p.line(3, p.two('c', p.number(1), p.none('e')), p.show(p.text("d")));
            int job = p.job(p.of('d', 0, 0, 0), p.of('d', 1, 0, 0), p.of('d', 2, 0, 0), p.of('d', 3, 0, 0));
            p.x.run(job, 200);
            due("shown with " + first, p.shown(job), first == 1 ? "ac" : "bd");
            due("truth", p.x.truth(job), first);
            due("steps", p.x.steps(job), 4 + (first == 1 ? 2 + 1 + 2 + 1 : 1 + 2 + 1 + 2));
        }
        Program p = new Program();
        int job = p.ran(2, p.none('e'), p.show(p.text("x")));
        due("the truth is 0 at first", p.shown(job), "x");
        int other = p.ran(2, p.two('c', p.number(0), p.none('h')), p.show(p.text("y")));
        due("c leaves only its command out", p.shown(other), "y");
        due("and no truth", p.x.truth(other), 0);
    }

    /** "as long as it is not above the last, for steps of 0 or more, or not below, otherwise" */
    private static void loopsUp() {
        int[][] loops = {{1, 1, 0, 0}, {1, 1, 1, 1}, {1, 1, 2, 2}, {1, 2, 2, 1}, {1, 2, 3, 2}, {1, 2, 4, 2}, {3, -1, 4, 0},
            {3, -1, 3, 1}, {3, -1, 2, 2}, {3, -2, 2, 1}, {3, -2, 1, 2}, {-1, 1, 1, 3}, {1, -1, -1, 3}, {5, 0, 4, 0}, {0, 1, -1, 0},
            {0, -1, 1, 0}};
        for (int[] loop : loops) {
            Program p = new Program();
            p.line(0, p.show(p.text(".")));
            int job = p.job(p.loop(2, p.number(loop[0]), p.number(loop[1]), p.number(loop[2]), 0));
            String what = loop[0] + " by " + loop[1] + " to " + loop[2];
            due("steps of " + what, p.x.run(job, 200), 1 + 2 * loop[3] + 1);
            due("times of " + what, p.x.output(job), loop[3]);
            due("what stays of " + what, p.looked(job, p.local(2)), String.valueOf(loop[0] + loop[1] * loop[3]));
        }
        for (int last = 4; last <= 6; last++) {
            Program p = new Program();
            p.line(0, p.show(p.text(".")));
            int job = p.job(p.loop(2, p.number(5), p.number(0), p.number(last), 0));
            due("steps of 0", p.x.run(job, 200), last < 5 ? 2 : 200);
            due("times of 0 to " + last, p.x.output(job), last < 5 ? 0 : 99);
        }
    }

    /** "'f' does its parts in one, then takes a step for each time it begins a line, and one more as it ends" */
    private static void loopSteps() {
        Program p = new Program();
        int one = p.number(1);
        p.line(0, p.show(p.local(0)));
        int job = p.job(p.two('c', one, p.loop(0, one, one, p.number(2), 0)), p.show(p.text("!")));
        String[] locals = {"1", "1", "1", "2", "2", "3", "3"};
        int[] depths = {1, 2, 1, 2, 1, 1, 0};
        int[] shown = {0, 0, 1, 1, 2, 2, 3};
        for (int step = 0; step < locals.length; step++) {
            due("a step", p.x.run(job, 1), 1);
            due("the local behind step " + step, p.looked(job, p.local(0)), locals[step]);
            due("frames behind step " + step, p.x.depth(job), depths[step]);
            due("shown behind step " + step, p.x.output(job), shown[step]);
        }
        due("no more", p.x.run(job, 1), 0);
        Program q = new Program();
        int first = q.number(1);
        int other = q.job(q.loop(0, first, first, q.number(3), 19));
        due("an empty line is no step", q.x.run(other, 200), 1 + 3 + 1);
    }

    /** "the numbers of the three parts of the list b, from, step and to, are done once" */
    private static void loopParts() {
        Program p = new Program();
        int one = p.number(1);
        for (int count = 1; count <= 5; count++) {
            int[] parts = new int[count];
            java.util.Arrays.fill(parts, one);
            int list = p.list(parts);
            if (count == 3) {
                due("three parts", p.of('f', 0, list, 0) > 0, true);
            } else {
                refused(count + " parts", () -> p.of('f', 0, list, 0));
            }
        }
        refused("no list", () -> p.of('f', 0, -1, 0));
        int count = p.local(1);
        int up = p.two('I', count, one);
        p.line(0, p.show(p.local(0)));
        int job = p.ran(200, p.loop(0, up, up, p.two('+', up, p.number(2)), 0));
        due("1, 3 and 5", p.shown(job), "135");
        due("done once", p.looked(job, count), "3");
        int other = p.ran(200, p.loop(0, p.text("1x"), p.text("2 "), p.text("4"), 0));
        due("texts are numbers", p.shown(other), "13");
        int third = p.ran(200, p.set(p.local(0, one), one), p.loop(0, one, one, p.two('/', one, p.number(0)), 0));
        due("an error", p.x.error(third), 'z');
        due("leaves the local", p.looked(third, p.one('D', p.local(0))), "10");
    }

    /** "then the step is added to what the local has" */
    private static void loopLocals() {
        Program p = new Program();
        int one = p.number(1);
        int local = p.local(0);
        p.line(0, p.show(local), p.set(local, p.two('*', local, p.number(2))));
        int job = p.ran(200, p.loop(0, one, one, p.number(20), 0));
        due("doubled each time", p.shown(job), "13715");
        Program q = new Program();
        int name = q.local(0);
        q.line(0, q.show(name), q.set(name, q.text("12x")));
        int other = q.ran(200, q.loop(0, q.number(1), q.number(1), q.number(13), 0));
        due("the number of what it has", q.shown(other).substring(0, 5), "11313");
        Program r = new Program();
        r.line(0, r.show(r.local(0)), r.one('k', r.local(0)));
        int third = r.ran(20, r.loop(0, r.number(5), r.number(2), r.number(5), 0));
        due("0 without a value", r.shown(third).substring(0, 4), "5222");
    }

    /** "'z' ends the innermost loop, the frame of its line and those within that, the error 'l' without one" */
    private static void innermost() {
        Program p = new Program();
        int one = p.number(1);
        p.line(0, p.show(p.text("a")), p.loop(1, one, one, p.number(5), 1), p.show(p.text("b")));
        p.line(1, p.show(p.local(1)), p.of('d', 2, 0, 0), p.show(p.text("x")));
        p.line(2, p.of('d', 3, 0, 0), p.show(p.text("y")));
        p.line(3, p.none('z'), p.show(p.text("w")));
        int job = p.job(p.loop(0, one, one, p.number(2), 0), p.show(p.text("c")));
        p.x.run(job, 8);
        due("five frames", p.x.depth(job), 5);
        p.x.run(job, 1);
        due("z", p.x.depth(job), 2);
        p.x.run(job, 1);
        due("goes on behind the loop", p.shown(job), "a1b");
        p.x.run(job, 200);
        due("the outer one goes on", p.shown(job), "a1ba1bc");
        Program q = new Program();
        q.line(0, q.none('z'));
        int other = q.ran(1, q.none('z'));
        due("without one", q.x.error(other), 'l');
        int third = q.ran(20, q.loop(0, q.number(1), q.number(1), q.number(2), 1), q.of('d', 0, 0, 0));
        due("behind one", q.x.error(third), 'l');
        due("it had ended", q.looked(third, q.local(0)), "3");
        Program r = new Program();
        r.line(0, r.show(r.call(1)));
        r.line(1, r.loop(3, r.number(1), r.number(1), r.number(4), 2), r.one('q', r.local(3)));
        r.line(2, r.none('z'));
        int fourth = r.ran(20, r.loop(0, r.number(1), r.number(1), r.number(2), 0));
        due("a loop of the call itself", r.shown(fourth), "11");
    }

    /** "'q' ends the frame, with the expression a, or -1" */
    private static void quits() {
        Program p = new Program();
        int one = p.number(1);
        p.line(0, p.show(p.text("a")), p.one('q', p.two('I', p.local(0), one)), p.show(p.text("x")));
        int job = p.ran(20, p.of('d', 0, 0, 0), p.loop(1, one, one, p.number(2), 0), p.one('q', -1), p.show(p.text("y")));
        due("only the frame of its line", p.shown(job), "aaa");
        due("its expression is done", p.looked(job, p.local(0)), "3");
        due("the last frame", p.x.state(job), 'd');
        int other = p.ran(2, p.one('q', p.two('/', one, p.number(0))));
        due("an error of it", p.x.error(other), 'z');
    }

    /** "'w' saves the locals told as bits, 1 to 255, which have no values then, until the frame ends, .." */
    private static void savedBits() {
        for (int bits : new int[] {-1, 0, 256, 257, Integer.MIN_VALUE, Integer.MAX_VALUE}) {
            Program p = new Program();
            refused("w " + bits, () -> p.of('w', bits, 0, 0));
        }
        for (int bits : new int[] {1, 2, 64, 128, 129, 254, 255}) {
            Program p = new Program();
            int one = p.number(1);
            int[] sets = new int[9];
            for (int i = 0; i < 8; i++) {
                sets[i] = p.set(i % 2 == 0 ? p.local(i) : p.local(i, one), p.number(i + 1));
            }
            sets[8] = p.of('d', 0, 0, 0);
            p.line(0, p.one('w', bits), p.set(p.local(0, one, one), one), p.set(p.local(7), one), p.show(one));
            int job = p.ran(10, sets);
            for (int i = 0; i < 8; i++) {
                int data = p.one('D', p.local(i));
                due("local " + i + " behind w " + bits, p.looked(job, data), (bits >> i & 1) == 1 ? "0" : i % 2 == 0 ? "1" : "10");
            }
            p.x.run(job, 3);
            for (int i = 0; i < 8; i++) {
                boolean isSaved = (bits >> i & 1) == 1;
                String due = i == 0 && !isSaved ? "11" : i == 7 && !isSaved ? "11" : i % 2 == 0 ? "1" : "10";
                due("local " + i + " as it was", p.looked(job, p.one('D', p.local(i))), due);
            }
        }
    }

    /** "'o' puts the expression a out, at most 200 characters in all, more being lost" */
    private static void twoHundredCharacters() {
        for (int more = 0; more <= 3; more++) {
            Program p = new Program();
            int forty = p.show(p.letters(40));
            int last = p.show(p.letters(38 + more));
            int job = p.ran(20, forty, forty, forty, forty, last, p.show(p.text("")), p.show(p.text("yz")));
            due("all is done", p.x.state(job), 'd');
            due("characters", p.x.output(job), 200);
            String due = (Program.lettersOf(40).repeat(4) + Program.lettersOf(38 + Math.min(more, 2)) + "yz").substring(0, 200);
            due("which ones", p.shown(job), due);
            Check.fails("the 201st", java.util.NoSuchElementException.class, () -> p.x.outputAt(job, 200));
        }
        Program p = new Program();
        int forty = p.show(p.letters(40));
        int job = p.ran(20, forty, forty, forty, forty, p.show(p.letters(39)));
        due("199 characters", p.x.output(job), 199);
        due("the last one", p.x.outputAt(job, 198), 'g');
        Check.fails("no more", java.util.NoSuchElementException.class, () -> p.x.outputAt(job, 199));
        int other = p.ran(1, p.show(p.text("")));
        due("nothing", p.x.output(other), 0);
        Check.fails("no first one", java.util.NoSuchElementException.class, () -> p.x.outputAt(other, 0));
    }

    /** "frames end from the last one on, their locals as they were, until one has a trap .. Without one the job ends" */
    private static void traps() {
        for (int trapped = 0; trapped <= 3; trapped++) {
            Program p = new Program();
            int zero = p.two('/', p.number(1), p.number(0));
            int no = p.two('c', p.number(0), p.none('h'));
            p.line(9, p.show(p.text("t")), p.show(p.x.node('T', 0, 0, 0)));
            int[] traps = {no, no, no, no};
            traps[trapped] = trapped == 3 ? no : p.trap(9);
            p.line(0, traps[0], p.one('w', 1), p.set(p.local(0), p.number(5)), p.of('d', 1, 0, 0), p.show(p.text("a")));
            p.line(1, traps[1], p.one('w', 1), p.set(p.local(0), p.number(6)), p.of('d', 2, 0, 0), p.show(p.text("b")));
            p.line(2, traps[2], p.one('w', 1), p.set(p.local(0), p.number(7)), p.set(p.local(0), zero), p.show(p.text("c")));
            int job = p.ran(13, p.set(p.local(0), p.number(4)), p.of('d', 0, 0, 0), p.show(p.text("d")));
            due("ahead of the error", p.x.depth(job), 4);
            p.x.run(job, 1);
            due("frames, trap in " + trapped, p.x.depth(job), trapped == 3 ? 0 : trapped + 2);
            due("the local, trap in " + trapped, p.looked(job, p.local(0)), trapped == 3 ? "4" : String.valueOf(5 + trapped));
            p.x.run(job, 200);
            due("what goes on", p.shown(job), new String[] {"t0d", "t0ad", "t0bad", ""}[trapped]);
            due("state", p.x.state(job), trapped == 3 ? 'e' : 'd');
            due("error", p.x.error(job), 'z');
        }
    }

    /** "until one has a trap, which is gone by that; its line is done in that frame, in place of what is left there" */
    private static void trapIsGone() {
        Program p = new Program();
        int zero = p.show(p.two('/', p.number(1), p.number(0)));
        p.line(0, p.show(p.text("t")), zero);
        p.line(1, p.trap(0), p.trap(0), zero, p.show(p.text("x")));
        int job = p.ran(20, p.trap(2), p.of('d', 1, 0, 0), p.show(p.text("y")));
        due("twice an error", p.shown(job), "t");
        due("the outer trap is an empty line", p.x.state(job), 'd');
        int other = p.ran(20, p.trap(0), p.trap(-1), zero);
        due("no trap", p.x.state(other), 'e');
        due("nothing shown", p.x.output(other), 0);
        Program q = new Program();
        int error = q.show(q.two('/', q.number(1), q.number(0)));
        q.line(0, q.show(q.text("t")));
        int third = q.ran(2, q.trap(0), error, q.show(q.text("x")));
        due("the frame stays", q.x.depth(third), 1);
        due("the line is told anew", q.x.line(0, -1) >= 0, true);
        q.x.run(third, 5);
        due("but was in the frame as it was", q.shown(third), "t");
        Program r = new Program();
        int wrong = r.show(r.two('/', r.number(1), r.number(0)));
        r.line(1, wrong);
        r.line(2, r.show(r.local(0)), r.none('z'));
        int fourth = r.ran(20, r.trap(2), r.loop(0, r.number(7), r.number(1), r.number(9), 1), r.show(r.text("x")));
        due("a loop is left there too", r.shown(fourth), "7");
        due("so there is none", r.x.error(fourth), 'l');
    }

    /** What an error does not: the truth, what was put out and what is remembered stay. */
    private static void errorsOfFrames() {
        Program p = new Program();
        int one = p.number(1);
        p.line(0, p.show(p.none('T')), p.set(p.naked(p.number(2)), one));
        int job = p.ran(20, p.trap(0), p.one('i', one), p.show(p.text("a")), p.show(p.two('+', p.global(0, one), p.two('/', one,
            p.number(0)))));
        due("put out", p.shown(job), "a1");
        due("remembered", p.looked(job, p.global(0, p.number(2))), "1");
        due("truth", p.x.truth(job), 1);
        due("the error of a job that is done", p.x.error(job), 'z');
    }

    /** "There are at most 10 frames, else it is the error 'f'" */
    private static void tenFrames() {
        for (int depth = 8; depth <= 10; depth++) {
            Program p = new Program();
            int one = p.number(1);
            int local = p.local(0);
            int isDeep = p.two('<', p.two('I', local, one), p.number(depth - 1));
            p.line(0, p.two('c', isDeep, p.of('d', 0, 0, 0)), p.of('d', 19, 0, 0), p.show(p.text("x")));
            int job = p.ran(depth, p.of('d', 0, 0, 0));
            due("frames", p.x.depth(job), depth);
            p.x.run(job, 1);
            due("an empty line with " + depth, p.x.state(job), depth < 10 ? 'r' : 'e');
            due("frames behind it", p.x.depth(job), depth < 10 ? depth : 0);
            due("error", depth < 10 || p.x.error(job) == 'f', true);
        }
        for (int depth = 8; depth <= 10; depth++) {
            Program p = new Program();
            int one = p.number(1);
            int local = p.local(0);
            int isDeep = p.two('<', p.two('I', local, one), p.number(depth - 1));
            p.line(0, p.two('c', isDeep, p.of('d', 0, 0, 0)), p.loop(1, one, one, one, 19), p.show(p.text("x")));
            int job = p.ran(depth + 1, p.of('d', 0, 0, 0));
            due("the parts of a loop", p.x.depth(job), depth);
            p.x.run(job, 1);
            due("the line of a loop with " + depth, p.x.state(job), depth < 10 ? 'r' : 'e');
            due("error", depth < 10 || p.x.error(job) == 'f', true);
        }
    }

    private static void tenFramesOfCalls() {
        for (int depth = 8; depth <= 11; depth++) {
            Program p = new Program();
            int one = p.number(1);
            int local = p.local(0);
            int more = p.two('+', local, one);
            p.line(0, p.two('c', p.two('<', local, p.number(depth)), p.one('q', p.call(0, more))), p.one('q', local));
            String due = depth <= 10 ? String.valueOf(depth) : "error f";
            due("calls in " + depth + " frames", p.shownBy(p.call(0, p.number(2))), due);
        }
        Program p = new Program();
        int one = p.number(1);
        int up = p.two('I', p.global(0), one);
        p.line(0, p.one('q', p.call(0, up)));
        due("endless calls", p.shownBy(p.call(0, up)), "error f");
        due("parts are done ahead of the error", p.looked(0, p.global(0)), "10");
    }

    /** "a call that would make a 201st command or step of a loop .. ends its frames, traps or not, and is the error 'y'" */
    private static void twoHundredCommands() {
        for (int count = 198; count <= 202; count++) {
            Program p = new Program();
            int one = p.number(1);
            int up = p.set(p.global(0), p.two('+', p.global(0), one));
            // a loop of n times makes 1 + 2 n + 1, and the rest up to the count is a c each, the last command a q
            int times = (count - 20) / 2;
            int rest = count - 2 * times - 3;
            int[] commands = new int[rest + 2];
            commands[0] = p.loop(0, one, one, p.number(times), 1);
            int idle = p.two('c', p.number(0), p.none('z'));
            for (int i = 1; i <= rest; i++) {
                commands[i] = i % 2 == 0 ? idle : p.two('c', one, p.trap(2));
            }
            commands[rest + 1] = p.one('q', p.text("end"));
            p.line(0, commands);
            p.line(1, up);
            p.line(2, p.one('q', p.text("trap")));
            due(count + " commands", p.shownBy(p.call(0)), count <= 200 ? "end" : "error y");
            due("no frame", p.x.depth(0), 0);
            due("one step", p.x.steps(0), 1);
            due("what it did stays", p.looked(0, p.global(0)), String.valueOf(times));
        }
        for (int count = 198; count <= 201; count++) {
            Program p = new Program();
            int one = p.number(1);
            int times = (count - 3) / 1;
            p.line(0, p.loop(0, one, one, p.number(times), 19), p.one('q', p.local(0)));
            due(count + " steps of a loop with an empty line", p.shownBy(p.call(0)), count <= 200 ? String.valueOf(times + 1) : "error y");
        }
    }

    /** ".. those of calls within it counted" */
    private static void callsWithin() {
        for (int count = 199; count <= 202; count++) {
            Program p = new Program();
            int one = p.number(1);
            // the inner one makes 1 + 50 + 1 + 1, three times; the outer one makes 3 more, a loop and a q
            p.line(1, p.loop(0, one, one, p.number(50), 19), p.one('q', one));
            int inner = p.set(p.local(1), p.call(1));
            p.line(0, p.trap(2), inner, inner, inner, p.loop(0, one, one, p.number(count - 159 - 7), 19), p.one('q', p.text("end")));
            p.line(2, p.one('q', p.text("trap")));
            due("calls of " + count + " in all", p.shownBy(p.call(0)), count <= 200 ? "end" : "error y");
        }
        Program p = new Program();
        int one = p.number(1);
        p.line(1, p.trap(2), p.loop(0, one, p.number(0), one, 19));
        p.line(2, p.one('q', p.text("trap")));
        p.line(0, p.trap(2), p.one('q', p.call(1)));
        p.line(3, p.show(p.text("caught")));
        int job = p.ran(2, p.trap(3), p.show(p.call(0)));
        due("y of the inner one", p.x.error(job), 'y');
        p.x.run(job, 1);
        due("is that of the outermost one, the job's frame has its trap", p.shown(job), "caught");
        int other = p.ran(1, p.show(p.two('_', p.call(2), p.call(2))));
        due("the next call counts anew", p.shown(other), "traptrap");
    }

    /** "At most 3 jobs are numbered from 0" */
    private static void threeJobs() {
        Program p = new Program();
        p.line(0, p.none('h'));
        for (int job = 0; job < 3; job++) {
            int number = job;
            Check.fails("no job " + job, IndexOutOfBoundsException.class, () -> p.x.state(number));
            due("job " + job, p.x.job(0), job);
            due("its state", p.x.state(job), 'r');
        }
        Check.fails("the fourth", IllegalStateException.class, () -> p.x.job(0));
        p.x.run(0, 1);
        p.x.crash();
        Check.fails("those that are over count", IllegalStateException.class, () -> p.x.job(0));
        Check.fails("no job 3", IndexOutOfBoundsException.class, () -> p.x.state(3));
        Check.fails("no job -1", IndexOutOfBoundsException.class, () -> p.x.state(-1));
    }

    /** "each begun with a frame for a line, one without commands being done at once" */
    private static void emptyLines() {
        Program p = new Program();
        p.line(0, p.none('e'));
        due("a line", p.x.state(p.x.job(0)), 'r');
        due("a frame", p.x.depth(0), 1);
        due("none", p.x.state(p.x.job(1)), 'd');
        due("no frame", p.x.depth(1), 0);
        due("no step", p.x.run(1, 200), 0);
        p.x.line(0, -1);
        due("a line that has none any more", p.x.state(p.x.job(0)), 'd');
        due("the first job has its own", p.x.run(0, 200), 1);
    }

    /** "A step does one command; 'c' and its command are one .. the end of a line is no step." */
    private static void commandIsStep() {
        Program p = new Program();
        int one = p.number(1);
        p.line(0, p.show(p.text("b")));
        int inner = p.two('c', one, p.two('c', one, p.two('c', one, p.show(p.text("a")))));
        int job = p.job(inner, p.of('d', 0, 0, 0), p.of('d', 19, 0, 0), p.two('c', one, p.of('d', 0, 0, 0)), p.none('u'));
        String[] shown = {"a", "a", "ab", "ab", "ab", "abb", "abb"};
        int[] depths = {1, 2, 1, 1, 2, 1, 0};
        for (int step = 0; step < shown.length; step++) {
            due("a step", p.x.run(job, 1), 1);
            due("shown behind " + step, p.shown(job), shown[step]);
            due("frames behind " + step, p.x.depth(job), depths[step]);
            due("steps", p.x.steps(job), step + 1);
        }
        due("no more", p.x.run(job, 1), 0);
        due("steps stay", p.x.steps(job), 7);
    }

    /** "A job is ready 'r', waits 'w', is done 'd', ended by an error 'e', or was ended by a crash 'x'." */
    private static void states() {
        Program p = new Program();
        int local = p.local(0);
        int job = p.ran(1, p.lock(-1, local), p.none('u'), p.show(p.two('/', p.number(1), p.number(0))));
        int other = p.ran(1, p.lock(-1, local), p.none('h'));
        int third = p.ran(1, p.none('u'), p.none('u'));
        due("three", "" + p.x.state(job) + p.x.state(other) + p.x.state(third), "rwr");
        p.x.run(job, 1);
        p.x.run(other, 2);
        p.x.run(job, 1);
        p.x.crash();
        due("three ends", "" + p.x.state(job) + p.x.state(other) + p.x.state(third), "edx");
        for (int i = 0; i < 3; i++) {
            due("no steps", p.x.run(i, 1), 0);
            due("no frames", p.x.depth(i), 0);
        }
        p.x.crash();
        due("as they were", "" + p.x.state(job) + p.x.state(other) + p.x.state(third), "edx");
    }

    /** "'h' ends the job, its frames ending"; "Its locals stay as they are at its end." */
    private static void endings() {
        Program p = new Program();
        int one = p.number(1);
        p.line(0, p.one('w', 1), p.set(p.local(0), p.number(2)), p.set(p.local(1), p.number(3)), p.two('c', one, p.none('h')),
            p.show(one));
        int job = p.ran(20, p.set(p.local(0), one), p.of('d', 0, 0, 0), p.show(one));
        due("done", p.x.state(job), 'd');
        due("nothing behind it", p.x.output(job), 0);
        due("five steps", p.x.steps(job), 6);
        due("what comes back", p.looked(job, p.local(0)), "1");
        due("what stays", p.looked(job, p.local(1)), "3");
        int other = p.ran(2, p.set(p.local(4), one), p.show(p.naked(one)));
        due("ended by an error", p.x.state(other), 'e');
        due("its locals stay", p.looked(other, p.local(4)), "1");
        int third = p.ran(1, p.set(p.local(4), one), p.show(one));
        p.x.crash();
        due("ended by a crash", p.x.state(third), 'x');
        due("its locals stay", p.looked(third, p.local(4)), "1");
    }

    /** An error in any part of any command is the error of the command, which does nothing then. */
    private static void errorsOfCommands() {
        for (int way = 0; way < 15; way++) {
            Program p = new Program();
            int one = p.number(1);
            int zero = p.two('/', one, p.number(0));
            int wrong = p.global(0, zero);
            int fine = p.local(0);
            int[] commands = {p.set(fine, zero), p.set(wrong, one), p.one('k', wrong), p.two('m', wrong, fine),
                p.two('m', fine, wrong), p.one('i', zero), p.two('c', zero, p.none('h')), p.loop(0, zero, one, one, 1),
                p.loop(0, one, zero, one, 1), p.loop(0, one, one, zero, 1), p.one('q', zero), p.show(zero),
                p.lock(-1, fine, wrong), p.lock(zero, fine), p.two('c', one, p.show(zero))};
            p.line(0, p.show(p.text("t")));
            int job = p.ran(2, p.trap(0), commands[way], p.show(p.text("x")));
            due("the error by command " + way, p.x.error(job), 'z');
            due("one frame", p.x.depth(job), 1);
            due("the truth stays", p.x.truth(job), 0);
            due("no lock", p.x.locks(job), 0);
            due("no value", p.looked(job, p.one('D', fine)), "0");
            due("no change", p.x.written(), 0);
            p.x.run(job, 9);
            due("the trap alone", p.shown(job), "t");
        }
        for (int way = 0; way < 24; way++) {
            Program p = new Program();
            int one = p.number(1);
            int zero = p.two('/', one, p.number(0));
            int fine = p.local(0);
            int wrong = p.local(0, zero);
            int[] expressions = {p.two('+', zero, one), p.two('+', one, zero), p.one('!', zero), p.one('L', zero), p.of('E', zero,
                one, one), p.of('E', one, zero, one), p.of('E', one, one, zero), p.of('P', zero, one, one), p.of('P', one, zero,
                one), p.of('P', one, one, zero), p.of('S', zero, one, one), p.of('S', one, zero, one),
                p.of('S', p.number(0), one, zero), wrong, p.one('D', wrong), p.two('O', wrong, 0), p.one('Q', wrong),
                p.two('G', wrong, one), p.two('G', fine, zero), p.two('I', wrong, one), p.two('I', fine, zero), p.call(0, zero),
                p.call(0, one, zero), p.local(0, p.local(0, wrong))};
            p.line(0, p.one('q', one));
            due("the error of expression " + way, p.shownBy(expressions[way]), "error z");
        }
    }

    /** "operands without meaning are not looked at": nor are they done. */
    private static void withoutMeaning() {
        for (char kind : "#tvgn+_=<![L]&|DQGITLFO".toCharArray()) {
            Program p = new Program();
            int one = p.number(1);
            int count = p.two('I', p.local(7), p.two('/', one, p.number(0)));
            int local = p.local(0);
            int list = p.list(one);
            boolean isTwo = "+_=<[]&|".indexOf(kind) >= 0;
            int a = "#tvgF".indexOf(kind) >= 0 ? kind == 't' ? 49 : 1 : kind == 'n' ? list : "DQGIO".indexOf(kind) >= 0 ? local : one;
            int b = isTwo || kind == 'G' || kind == 'I' ? one : kind == 't' ? 0 : kind == 'v' || kind == 'g' || kind == 'F' ? -1
                : count;
            int c = kind == 't' ? 0 : count;
            p.line(1, p.one('q', one));
            int job = p.ran(2, p.show(p.global(2, one)), p.show(p.of(kind, a, b, c)), p.none('h'));
            due("only its own parts of " + kind, p.x.state(job), kind == 'O' ? 'e' : 'r');
            due("no other is done", p.looked(job, p.one('D', p.local(7))), "0");
            due("not even far ones", p.of(kind, a, b == count ? -7 : b, c == count ? 1000 : c) > 0, true);
        }
        for (char kind : "kmioqwredh".toCharArray()) {
            Program p = new Program();
            int one = p.number(1);
            int wrong = p.show(p.two('I', p.local(7), p.two('/', one, p.number(0))));
            int local = p.local(0);
            int a = kind == 'k' || kind == 'm' ? local : kind == 'w' ? 1 : one;
            int job = p.ran(1, p.of(kind, a, kind == 'm' ? local : wrong, wrong), p.none('u'), p.none('u'));
            due("only its own parts of " + kind, p.x.state(job) == 'e', false);
        }
    }

    /** A call does not move the loops that a 'z' behind it ends. */
    private static void loopsBehindCalls() {
        Program p = new Program();
        int one = p.number(1);
        p.line(0, p.show(p.call(2)), p.none('z'), p.show(p.text("x")));
        p.line(1, p.loop(0, one, one, p.number(3), 0), p.one('q', p.text("b")));
        p.line(2, p.one('q', p.text("a")));
        int job = p.ran(20, p.loop(0, one, one, p.number(3), 0), p.show(p.call(1)), p.loop(0, one, one, p.number(3), 0));
        due("ended behind each call", p.shown(job), "aaba");
        due("done", p.x.state(job), 'd');
        Program q = new Program();
        int first = q.number(1);
        q.line(0, q.trap(3), q.show(q.call(2)), q.show(q.text("x")));
        q.line(1, q.none('z'));
        q.line(2, q.show(q.naked(first)));
        q.line(3, q.show(q.text("t")), q.none('z'));
        int other = q.ran(20, q.loop(0, first, first, q.number(3), 0), q.show(q.text("!")));
        due("behind a call that was an error", q.shown(other), "t!");
    }

    /** As many parts of calls as can wait for the last one of their list, in ten frames. */
    private static void partsOfManyCalls() {
        Program p = new Program();
        int one = p.number(1);
        int level = p.local(0);
        int inner = p.call(0, p.two('+', level, one));
        for (int i = 0; i < 3; i++) {
            inner = p.call(1, one, one, one, one, one, one, one, inner);
        }
        p.line(0, p.two('c', p.two('>', level, p.number(8)), p.one('q', p.number(100))), p.one('q', inner));
        p.line(1, p.one('q', p.two('+', p.local(7), p.two('*', p.local(0), p.local(6)))));
        due("three calls for each of eight frames", p.shownBy(p.call(0, one)), "124");
        Program q = new Program();
        int first = q.number(1);
        int deeper = q.call(0, q.two('+', q.local(0), first));
        for (int i = 0; i < 3; i++) {
            deeper = q.call(1, first, first, first, first, first, first, first, deeper);
        }
        q.line(0, q.one('q', deeper));
        q.line(1, q.one('q', q.local(7)));
        int job = q.ran(2, q.trap(2), q.show(deeper));
        due("too many frames", q.x.error(job), 'f');
        q.line(3, q.one('q', q.two('_', q.local(6), q.local(7))));
        due("and all parts are gone", q.shownBy(q.call(3, first, first, first, first, first, first, q.text("six"), q.text("7"))), "six7");
    }
}
