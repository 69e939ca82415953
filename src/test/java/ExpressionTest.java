/** Texts, trees, naked references and expressions: the terms of the document, and promises 2, 13 to 16. */
public final class ExpressionTest {
    private ExpressionTest() {
    }

    public static void main(String[] args) {
        numbersOfTexts();
        writtenNumbers();
        manyTexts();
        reckoning();
        comparing();
        cutting();
        pieces();
        subscripts();
        data();
        order();
        query();
        choices();
        increase();
        naked();
        nakedErrors();
        looks();
        Check.finish("ExpressionTest");
    }

    private static void due(String what, Object got, Object due) {
        Check.same(what, got, due);
    }

    private static void numbersOfTexts() {
        String[] texts = {"12ab", "-7x", "-", "", "007", "--5", "1234567890", "-1234567890", " 5", "+5", "-0", "5-3"};
        int[] numbers = {12, -7, 0, 0, 7, 0, 123456789, -123456789, 0, 0, 0, 5};
        for (int i = 0; i < texts.length; i++) {
            Program p = new Program();
            int text = p.text(texts[i]);
            due("text " + texts[i], p.value(text), texts[i]);
            due("number of " + texts[i], p.x.lookNumber(), numbers[i]);
            due("truth of " + texts[i], p.value(p.one('!', text)), numbers[i] == 0 ? "1" : "0");
            due("length of " + texts[i], p.value(p.one('L', text)), String.valueOf(texts[i].length()));
        }
    }

    /** Only texts that are numbers come ahead of others as subscripts, by their size. */
    private static void writtenNumbers() {
        Program p = new Program();
        int zero = p.number(0);
        String[] texts = {"b", "-0", "10", "9", "-5", "05", "1234567890", "999999999", "0", "a", "ab", "-", "-10"};
        int[] commands = new int[texts.length];
        java.util.Map<String, Integer> locals = new java.util.HashMap<>();
        locals.put("", p.local(0, p.text("")));
        for (int i = 0; i < texts.length; i++) {
            locals.put(texts[i], p.local(0, p.text(texts[i])));
            commands[i] = p.set(locals.get(texts[i]), zero);
        }
        p.line(0, commands);
        int job = p.x.job(0);
        p.x.run(job, texts.length);
        String[] due = {"-10", "-5", "0", "9", "10", "999999999", "-", "-0", "05", "1234567890", "a", "ab", "b", ""};
        String at = "";
        for (int i = 0; i < due.length; i++) {
            at = p.looked(job, p.two('O', locals.get(at), 0));
            due("subscript " + i, at, due[i]);
        }
    }

    /** More texts than the first tables hold, as subscripts, and all found again. */
    private static void manyTexts() {
        Program p = new Program();
        int one = p.number(1);
        int key = p.two('_', p.two('_', p.text("key"), p.local(0)), p.text("of many"));
        p.line(0, p.loop(0, one, one, p.number(90), 1), p.show(p.local(1, key)));
        p.line(1, p.set(p.local(1, key), p.two('_', p.local(0), p.text(" is it"))));
        int job = p.x.job(0);
        p.x.run(job, 182);
        due("the last one", p.looked(job, p.local(1, key)), "");
        p.line(2, p.loop(0, one, one, p.number(90), 3));
        p.line(3, p.two('c', p.two('=', p.local(1, key), p.two('_', p.local(0), p.text(" is it"))),
            p.set(p.local(2), p.two('+', p.local(2), one))), p.set(p.local(1, key), one));
        p.line(4, p.loop(0, one, one, p.number(90), 1), p.of('d', 2, 0, 0));
        int other = p.x.job(4);
        for (int call = 0; call < 3; call++) {
            p.x.run(other, 200);
        }
        due("each found again", p.looked(other, p.local(2)), "90");
    }

    private static void reckoning() {
        Program p = new Program();
        int seven = p.number(-7);
        int two = p.number(2);
        int big = p.text("999999999");
        int one = p.number(1);
        due("+", p.value(p.two('+', seven, two)), "-5");
        due("-", p.value(p.two('-', seven, two)), "-9");
        due("*", p.value(p.two('*', seven, two)), "-14");
        due("/", p.value(p.two('/', seven, two)), "-3");
        due("%", p.value(p.two('%', seven, two)), "-1");
        due("/ by 0", p.value(p.two('/', seven, p.text("a"))), "error z");
        due("% by 0", p.value(p.two('%', seven, p.text(""))), "error z");
        due("nine digits", p.value(p.two('+', big, p.number(0))), "999999999");
        due("ten digits", p.value(p.two('+', big, one)), "error o");
        due("minus ten digits", p.value(p.two('-', p.two('-', p.number(0), big), one)), "error o");
        due("minus nine digits", p.value(p.two('-', p.number(0), big)), "-999999999");
        due("* of much", p.value(p.two('*', big, big)), "error o");
        due("texts as numbers", p.value(p.two('+', p.text("3 pigs"), p.text("4-"))), "7");
        due("'_'", p.value(p.two('_', seven, two)), "-72");
        int ten = p.text("abcdefghij");
        int twenty = p.two('_', ten, ten);
        int forty = p.two('_', twenty, twenty);
        due("40 characters", p.value(p.one('L', p.two('_', forty, one))), "40");
        due("the first 40", p.value(p.two('_', p.two('_', one, forty), one)),
            "1abcdefghijabcdefghijabcdefghijabcdefghi");
    }

    private static void comparing() {
        Program p = new Program();
        int a = p.text("a");
        int ab = p.text("ab");
        int nine = p.number(9);
        int ten = p.number(10);
        int empty = p.text("");
        due("= of texts", p.value(p.two('=', p.text("09"), nine)), "0");
        due("= of the same", p.value(p.two('=', p.two('_', p.number(1), p.number(0)), ten)), "1");
        due("<", p.value(p.two('<', nine, ten)), "1");
        due("< of the same", p.value(p.two('<', nine, nine)), "0");
        due(">", p.value(p.two('>', ten, nine)), "1");
        due("> of texts", p.value(p.two('>', ab, a)), "0");
        due("contains", p.value(p.two('[', ab, p.text("b"))), "1");
        due("contains not", p.value(p.two('[', a, ab)), "0");
        due("contains the empty one", p.value(p.two('[', empty, empty)), "1");
        due("] by characters", p.value(p.two(']', nine, ten)), "1");
        due("] of a longer one", p.value(p.two(']', ab, a)), "1");
        due("] of the same", p.value(p.two(']', a, a)), "0");
        due("] of a shorter one", p.value(p.two(']', a, ab)), "0");
        due("&", p.value(p.two('&', nine, ten)), "1");
        due("& of one", p.value(p.two('&', nine, a)), "0");
        due("|", p.value(p.two('|', a, nine)), "1");
        due("| of none", p.value(p.two('|', a, empty)), "0");
        int zero = p.two('/', nine, a);
        due("& does both", p.value(p.two('&', a, zero)), "error z");
        due("| does both", p.value(p.two('|', nine, zero)), "error z");
        due("a is done first", p.value(p.two('+', zero, p.naked(nine))), "error z");
        due("then b", p.value(p.two('+', p.naked(nine), zero)), "error n");
    }

    private static void cutting() {
        Program p = new Program();
        int text = p.text("abcde");
        int[][] places = {{2, 4}, {0, 2}, {-3, 1}, {4, 9}, {6, 9}, {3, 3}, {4, 3}, {-5, -1}, {1, 5}};
        String[] due = {"bcd", "ab", "a", "de", "", "c", "", "", "abcde"};
        for (int i = 0; i < places.length; i++) {
            int node = p.of('E', text, p.number(places[i][0]), p.number(places[i][1]));
            due("E " + places[i][0] + " to " + places[i][1], p.value(node), due[i]);
        }
        due("E of a number", p.value(p.of('E', p.number(-123), p.number(1), p.number(2))), "-1");
    }

    private static void pieces() {
        Program p = new Program();
        int text = p.text("a--b----c");
        int by = p.text("--");
        String[] due = {"", "a", "b", "", "c", ""};
        for (int i = 0; i < due.length; i++) {
            due("P " + i, p.value(p.of('P', text, by, p.number(i))), due[i]);
        }
        due("P -1", p.value(p.of('P', text, by, p.number(-1))), "");
        due("P of what is not there", p.value(p.of('P', text, p.text("x"), p.number(1))), "a--b----c");
        due("P 2 of what is not there", p.value(p.of('P', text, p.text("x"), p.number(2))), "");
        due("P by the empty text", p.value(p.of('P', text, p.text(""), p.number(1))), "error p");
        due("P of the empty text", p.value(p.of('P', p.text(""), by, p.number(1))), "");
        due("P of a text that begins so", p.value(p.of('P', p.text("--a"), by, p.number(2))), "a");
        due("P of the same", p.value(p.of('P', by, by, p.number(2))), "");
        due("P of overlaps", p.value(p.of('P', p.text("a---b"), by, p.number(2))), "-b");
        due("P does all ahead of p",
            p.value(p.of('P', text, p.text(""), p.two('/', by, by))), "error z");
    }

    private static void subscripts() {
        Program p = new Program();
        int one = p.number(1);
        int empty = p.text("");
        due("three subscripts", p.value(p.local(0, one, one, one)), "");
        due("four subscripts", p.value(p.local(0, one, one, one, one)), "error s");
        due("an empty subscript", p.value(p.global(0, one, empty)), "error s");
        due("an error in a subscript", p.value(p.global(0, empty, p.two('/', one, empty))), "error z");
        due("the error of the fifth", p.value(p.local(0, one, one, one, one, p.two('/', one, empty))), "error z");
        due("Q with an empty one", p.value(p.one('Q', p.local(0, empty))), "error s");
        due("D with an empty one", p.value(p.one('D', p.local(0, empty))), "error s");
        due("O without a subscript", p.value(p.two('O', p.local(0), 0)), "error s");
        due("O with an empty one ahead", p.value(p.two('O', p.local(0, empty, one), 0)), "error s");
        due("O with four", p.value(p.two('O', p.local(0, one, one, one, empty), 0)), "error s");
    }

    private static void data() {
        Program p = new Program();
        int one = p.number(1);
        int two = p.number(2);
        int node = p.local(0, one);
        p.line(0, p.set(p.local(0, one, two, two), one), p.set(p.local(0, two), p.text("")), p.set(node, two),
            p.one('k', p.local(0, one, two)), p.set(p.local(0), one), p.one('k', p.local(0)));
        int job = p.x.job(0);
        int root = p.one('D', p.local(0));
        int own = p.one('D', node);
        due("D of nothing", p.looked(job, own), "0");
        p.x.run(job, 1);
        due("D with below", p.looked(job, own), "10");
        due("D of the name", p.looked(job, root), "10");
        p.x.run(job, 1);
        due("D of an empty value", p.looked(job, p.one('D', p.local(0, two))), "1");
        p.x.run(job, 1);
        due("D of both", p.looked(job, own), "11");
        p.x.run(job, 1);
        due("D after a kill below", p.looked(job, own), "1");
        p.x.run(job, 1);
        due("D of the name with a value", p.looked(job, root), "11");
        p.x.run(job, 1);
        due("D after all is killed", p.looked(job, root), "0");
        due("a value killed", p.looked(job, node), "");
    }

    private static void order() {
        Program p = new Program();
        int one = p.number(1);
        int two = p.number(2);
        int a = p.text("a");
        int empty = p.text("");
        p.line(0, p.set(p.global(0, one, a), one), p.set(p.global(0, two), one), p.set(p.global(0, a, one, one), one),
            p.set(p.global(0), one), p.set(p.global(1, one), one));
        int job = p.x.job(0);
        p.x.run(job, 9);
        due("first", p.looked(job, p.two('O', p.global(0, empty), 0)), "1");
        due("last", p.looked(job, p.two('O', p.global(0, empty), 1)), "a");
        due("behind 1", p.looked(job, p.two('O', p.global(0, one), 0)), "2");
        due("ahead of 2", p.looked(job, p.two('O', p.global(0, two), 1)), "1");
        due("behind 2", p.looked(job, p.two('O', p.global(0, two), 0)), "a");
        due("behind the last", p.looked(job, p.two('O', p.global(0, a), 0)), "");
        due("ahead of the first", p.looked(job, p.two('O', p.global(0, one), 1)), "");
        due("behind what is not there", p.looked(job, p.two('O', p.global(0, p.text("0x")), 0)), "a");
        due("ahead of what is not there", p.looked(job, p.two('O', p.global(0, p.text("b")), 1)), "a");
        due("first below", p.looked(job, p.two('O', p.global(0, a, empty), 0)), "1");
        due("last below", p.looked(job, p.two('O', p.global(0, one, empty), 1)), "a");
        due("below nothing", p.looked(job, p.two('O', p.global(0, two, empty), 0)), "");
        due("below nothing, last", p.looked(job, p.two('O', p.global(0, two, empty), 1)), "");
        due("below in threes", p.looked(job, p.two('O', p.global(0, a, one, empty), 0)), "1");
        due("ahead of the first below", p.looked(job, p.two('O', p.global(0, a, one), 1)), "");
        due("of an empty global", p.looked(job, p.two('O', p.global(2, empty), 1)), "");
    }

    private static void query() {
        Program p = new Program();
        int one = p.number(1);
        int two = p.number(2);
        int long1 = p.text("abcdefghijklmnopqrst");
        p.line(0, p.set(p.local(1, one, two), one), p.set(p.local(1, one), one), p.set(p.local(1, two, one, two), one),
            p.set(p.local(1), two), p.set(p.local(2, long1, long1, one), one), p.set(p.local(0), one));
        int job = p.x.job(0);
        p.x.run(job, 9);
        due("Q of the name", p.looked(job, p.one('Q', p.local(1))), "1");
        due("Q goes below", p.looked(job, p.one('Q', p.local(1, one))), "1,2");
        due("Q goes on", p.looked(job, p.one('Q', p.local(1, one, two))), "2,1,2");
        due("Q of what is not there", p.looked(job, p.one('Q', p.local(1, one, p.text("x")))), "2,1,2");
        due("Q at the end", p.looked(job, p.one('Q', p.local(1, two, one, two))), "");
        due("Q of another tree", p.looked(job, p.one('Q', p.local(0))), "");
        due("Q is cut", p.looked(job, p.one('Q', p.local(2))), "abcdefghijklmnopqrst,abcdefghijklmnopqrs");
    }

    private static void choices() {
        Program p = new Program();
        int one = p.number(1);
        int no = p.text("no");
        int error = p.two('/', one, no);
        due("S", p.value(p.of('S', one, no, error)), "no");
        due("S not", p.value(p.of('S', no, error, one)), "1");
        due("S of an error", p.value(p.of('S', error, one, one)), "error z");
        due("T", p.value(p.none('T')), "0");
        int local = p.local(0);
        p.line(0, p.set(local, p.text("")), p.one('i', p.number(3)), p.one('k', local));
        int job = p.x.job(0);
        p.x.run(job, 2);
        due("G with an empty value", p.looked(job, p.two('G', local, error)), "");
        due("T after i", p.looked(job, p.none('T')), "1");
        p.x.run(job, 1);
        due("G without a value", p.looked(job, p.two('G', local, error)), "error z");
        due("G has b then", p.looked(job, p.two('G', local, no)), "no");
    }

    private static void increase() {
        Program p = new Program();
        int one = p.number(1);
        int local = p.local(0);
        int big = p.text("999999999");
        int again = p.two('I', local, p.two('I', local, p.number(5)));
        p.line(0, p.show(p.two('I', local, one)), p.set(local, p.text("10 x")), p.show(again), p.trap(1),
            p.show(p.two('I', local, big)));
        int job = p.x.job(0);
        p.x.run(job, 1);
        due("I of nothing", p.shown(job), "1");
        p.x.run(job, 2);
        due("I has its number behind b", p.shown(job), "130");
        p.x.run(job, 2);
        due("I of too much", p.x.error(job), 'o');
        due("nothing is given by an error", p.looked(job, local), "30");
        p.line(2, p.show(p.two('I', p.global(0, one), p.global(1, one, one))), p.show(p.naked(p.number(2))));
        p.line(3, p.set(p.global(1, one, one), one), p.set(p.global(1, one, p.number(2)), p.text("!")));
        p.x.run(p.x.job(3), 2);
        int other = p.x.job(2);
        p.x.run(other, 2);
        due("I remembers ahead of b", p.shown(other), "1!");
        due("I gives to its own reference", p.looked(other, p.global(0, one)), "1");
        due("and not to that of b", p.x.nodes(1), 2);
    }

    private static void naked() {
        Program p = new Program();
        int one = p.number(1);
        int two = p.number(2);
        p.line(0, p.set(p.global(1, one, one), p.text("a")), p.set(p.naked(two), p.text("b")),
            p.set(p.naked(two, one), p.text("c")), p.show(p.naked(one)), p.show(p.global(1, one)),
            p.show(p.naked(one, one)), p.show(p.local(0, two, two)), p.show(p.naked(one)));
        int job = p.x.job(0);
        p.x.run(job, 3);
        due("naked", p.looked(job, p.global(1, one, two)), "b");
        due("naked with two", p.looked(job, p.global(1, one, two, one)), "c");
        p.x.run(job, 1);
        due("naked remembers what it was", p.shown(job), "c");
        p.x.run(job, 2);
        due("naked of one", p.shown(job), "ca");
        p.x.run(job, 2);
        due("locals remember nothing", p.shown(job), "caa");
    }

    private static void nakedErrors() {
        Program p = new Program();
        int one = p.number(1);
        int empty = p.text("");
        int naked = p.naked(one);
        due("naked at first", p.value(naked), "error n");
        due("n ahead of s", p.value(p.naked(empty)), "error n");
        due("parts ahead of n", p.value(p.naked(p.two('/', one, empty))), "error z");
        p.line(0, p.show(p.global(0, one, one, one)), p.trap(1), p.show(p.global(1, one, empty)), p.none('h'));
        p.line(1, p.set(p.naked(one), p.text("x")), p.show(p.global(2)), p.show(naked));
        int job = p.x.job(0);
        p.x.run(job, 3);
        due("an empty subscript", p.x.error(job), 's');
        p.x.run(job, 1);
        due("an error is not remembered", p.looked(job, p.global(0, one, one, one)), "x");
        due("too many with those remembered", p.looked(job, p.naked(one, one)), "error s");
        due("an empty naked one", p.looked(job, p.naked(empty)), "error s");
        due("O may end with an empty one", p.looked(job, p.two('O', p.naked(empty), 0)), "1");
        p.x.run(job, 2);
        due("a global alone remembers nothing", p.x.error(job), 'n');
    }

    private static void looks() {
        Program p = new Program();
        int one = p.number(1);
        int global = p.global(0, one, one);
        int increase = p.two('I', global, one);
        int hidden = p.two('+', one, p.local(0, p.call(1)));
        Check.fails("look without a job", IndexOutOfBoundsException.class, () -> p.x.look(0, 99));
        Check.fails("lookError without a job", IndexOutOfBoundsException.class, () -> p.x.lookError(-1, one));
        due("nothing is kept at first", p.x.lookNumber(), 0);
        Check.fails("no character is kept", java.util.NoSuchElementException.class, () -> p.x.lookAt(0));
        int job = p.x.job(0);
        Check.fails("look at no node", IllegalArgumentException.class, () -> p.x.look(job, 99));
        Check.fails("look at -1", IllegalArgumentException.class, () -> p.x.look(job, -1));
        Check.fails("look at I", IllegalArgumentException.class, () -> p.x.look(job, increase));
        Check.fails("look at F deeper", IllegalArgumentException.class, () -> p.x.lookError(job, hidden));
        Check.fails("look at a list", IllegalArgumentException.class, () -> p.x.look(job, p.list(one)));
        Check.fails("look at a command", IllegalArgumentException.class, () -> p.x.look(job, p.show(one)));
        due("look", p.x.look(job, p.text("-41x")), 4);
        due("lookNumber", p.x.lookNumber(), -41);
        due("lookAt", p.x.lookAt(3), 'x');
        Check.fails("lookAt -1", java.util.NoSuchElementException.class, () -> p.x.lookAt(-1));
        Check.fails("lookAt 4", java.util.NoSuchElementException.class, () -> p.x.lookAt(4));
        Check.fails("an error", UnsupportedOperationException.class, () -> p.x.look(job, p.two('/', one, p.text(""))));
        due("an error keeps nothing", p.x.lookNumber(), -41);
        due("lookError of none", p.x.lookError(job, one), '-');
        due("lookError keeps nothing", p.x.lookNumber(), -41);
        due("a reference", p.x.look(job, global), 0);
        due("a look remembers nothing", p.x.lookError(job, p.naked(one)), 'n');
        Check.fails("a look is no error of the job", java.util.NoSuchElementException.class, () -> p.x.error(job));
    }
}
