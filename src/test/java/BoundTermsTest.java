/**
 * The boundaries in the sentences of 'Terms' on texts, trees, naked references and nodes of code, each at the boundary
 * and on both sides of it. The sentence stands ahead of its test.
 */
public final class BoundTermsTest {
    private BoundTermsTest() {
    }

    public static void main(String[] args) {
        fortyCharacters();
        fortyKept();
        fortyOfQuery();
        nineDigits();
        writtenAsNumber();
        truths();
        reckoned();
        reckonedDown();
        reckonedByLoops();
        names();
        ownLocals();
        rows();
        emptySubscripts();
        orderOfSubscripts();
        orderBesideOthers();
        sameTexts();
        textsStay();
        orderOfNodes();
        kills();
        killsAlone();
        merges();
        mergesTooDeep();
        mergesWithin();
        remembered();
        nothingRemembered();
        nakedRows();
        nakedParts();
        errorsRememberNothing();
        partsAheadOfErrors();
        Check.finish("BoundTermsTest");
    }

    private static void due(String what, Object got, Object due) {
        Check.same(what, got, due);
    }

    /** "A text has at most 40 characters, more being cut off." */
    private static void fortyCharacters() {
        int[][] pairs = {{39, 0}, {0, 39}, {38, 1}, {40, 0}, {39, 1}, {1, 39}, {0, 40}, {40, 1}, {39, 2}, {1, 40}, {40, 40}};
        for (int[] pair : pairs) {
            Program p = new Program();
            int joined = p.two('_', p.letters(pair[0]), p.letters(pair[1]));
            String whole = Program.lettersOf(pair[0]) + Program.lettersOf(pair[1]);
            String cut = whole.length() > 40 ? whole.substring(0, 40) : whole;
            due("40 characters of " + pair[0] + " and " + pair[1], p.value(joined), cut);
            due("their length", p.value(p.one('L', joined)), String.valueOf(cut.length()));
            due("length by look", p.x.look(0, joined), cut.length());
        }
    }

    /** The same, for texts that are values, subscripts and put out. */
    private static void fortyKept() {
        for (int length = 39; length <= 41; length++) {
            Program p = new Program();
            int text = p.two('_', p.letters(length - 2), p.text("yz"));
            int node = p.local(1, text);
            int job = p.ran(9, p.set(p.local(0), text), p.set(node, p.number(7)), p.show(p.local(0)));
            String due = (Program.lettersOf(length - 2) + "yz").substring(0, Math.min(length, 40));
            due("a value of " + length, p.looked(job, p.local(0)), due);
            due("a subscript of " + length, p.looked(job, p.two('O', p.local(1, p.text("")), 0)), due);
            due("a node at it", p.looked(job, node), "7");
            due("put out of " + length, p.shown(job), due);
            due("the same as the cut one", p.looked(job, p.two('=', text, p.local(0))), "1");
        }
    }

    /** The same, for what 'Q' puts together. */
    private static void fortyOfQuery() {
        for (int length = 38; length <= 42; length++) {
            Program p = new Program();
            int first = p.letters(length - 22);
            int twenty = p.letters(20);
            int job = p.ran(1, p.set(p.local(0, first, twenty, p.text("")), twenty));
            due("an empty subscript", p.x.state(job), 'e');
            int other = p.ran(1, p.set(p.local(0, first, twenty), twenty));
            String due = Program.lettersOf(length - 22) + "," + Program.lettersOf(20);
            due("Q of " + due.length(), p.looked(other, p.one('Q', p.local(0))),
                due.substring(0, Math.min(40, due.length())));
        }
        Program p = new Program();
        int job = p.ran(1, p.set(p.local(0, p.letters(40), p.number(1)), p.number(1)));
        due("Q of 40 and more", p.looked(job, p.one('Q', p.local(0))), Program.lettersOf(40));
    }

    /** "Its number is that of a '-', if there is one, and the digits behind it, at most nine, as long as they go; 0 .." */
    private static void nineDigits() {
        String[] texts = {"12345678", "123456789", "1234567890", "-12345678", "-123456789", "-1234567890", "000000005",
            "0000000005", "-000000005", "-0000000005", "99999999a", "999999999a", "9999999999a", "1a2", "-1-2", "-", "", "a",
            "-a1", "a-1", "--1", "0", "-0", " 1", "/1", ":1", "1:", "1/", "0009"};
        int[] numbers = {12345678, 123456789, 123456789, -12345678, -123456789, -123456789, 5, 0, -5, 0, 99999999, 999999999,
            999999999, 1, -1, 0, 0, 0, 0, 0, 0, 0, 0, 0, 0, 0, 1, 1, 9};
        for (int i = 0; i < texts.length; i++) {
            Program p = new Program();
            int text = p.text(texts[i]);
            due("the text " + texts[i], p.value(text), texts[i]);
            due("lookNumber of " + texts[i], p.x.lookNumber(), numbers[i]);
            due("reckoned with " + texts[i], p.value(p.two('+', text, p.number(0))), String.valueOf(numbers[i]));
        }
    }

    /** "A text is a number if it is written as one would be, without zeros ahead, of at most nine digits; '-0' is none." */
    private static void writtenAsNumber() {
        String[] numbers = {"0", "1", "9", "10", "-1", "-9", "-10", "99999999", "999999999", "-99999999", "-999999999",
            "100000000", "-100000000"};
        String[] others = {"-0", "00", "01", "-01", "09", "1000000000", "-1000000000", "0000000001", "9999999999", "-", "1-",
            "--1", "1a", "5.", "0x", "/", ":", "-/", "-:"};
        for (String text : numbers) {
            isAhead(text, true);
        }
        for (String text : others) {
            isAhead(text, false);
        }
    }

    /** A number is ahead of '!', which is ahead of all other texts here by its character. */
    private static void isAhead(String text, boolean isNumber) {
        Program p = new Program();
        int one = p.number(1);
        int job = p.ran(2, p.set(p.local(0, p.text(text)), one), p.set(p.local(0, p.text("!")), one));
        due("the first one of ! and " + text, p.looked(job, p.two('O', p.local(0, p.text("")), 0)), isNumber ? text : "!");
    }

    /** "A text is true if its number is not 0." */
    private static void truths() {
        String[] texts = {"0", "1", "-1", "-0", "00", "01", "-", "", "a", "1a", "a1", "-1a", "0000000001", "000000001"};
        int[] truths = {0, 1, 1, 0, 0, 1, 0, 0, 0, 1, 0, 1, 0, 1};
        for (int i = 0; i < texts.length; i++) {
            Program p = new Program();
            int text = p.text(texts[i]);
            due("not " + texts[i], p.value(p.one('!', text)), truths[i] == 1 ? "0" : "1");
            due("S of " + texts[i], p.value(p.of('S', text, p.text("yes"), p.text("no"))), truths[i] == 1 ? "yes" : "no");
            due("i of " + texts[i], p.x.truth(p.ran(1, p.one('i', text))), truths[i]);
            due("c of " + texts[i], p.x.output(p.ran(1, p.two('c', text, p.show(p.number(1))))), truths[i]);
        }
    }

    /** "Numbers made by reckoning, of loops too, that have more than nine digits are the error 'o'." */
    private static void reckoned() {
        int[] left = {999999, 999999, 31622, 31623, 999999, 999999, -31623};
        int[] right = {1000, 1001, 31622, 31623, 999, -1000, 31623};
        String[] products = {"999999000", "error o", "999950884", "error o", "998999001", "-999999000", "error o"};
        for (int i = 0; i < left.length; i++) {
            Program p = new Program();
            due(left[i] + " * " + right[i], p.value(p.two('*', p.number(left[i]), p.number(right[i]))),
                products[i]);
        }
        for (int more = -1; more <= 2; more++) {
            Program p = new Program();
            int most = p.text("999999998");
            String due = more <= 1 ? String.valueOf(999999998 + more) : "error o";
            due("999999998 + " + more, p.value(p.two('+', most, p.number(more))), due);
            due("999999998 - " + -more, p.value(p.two('-', most, p.number(-more))), due);
            due("I of 999999998 and " + more, p.shownBy(p.two('I', p.local(0), p.two('+', most, p.number(more)))), due);
        }
        Program p = new Program();
        int most = p.text("999999999");
        int least = p.text("-999999999");
        int minus = p.number(-1);
        due("the greatest by -1", p.value(p.two('/', most, minus)), "-999999999");
        due("the least by -1", p.value(p.two('/', least, minus)), "999999999");
        due("the rest of the least", p.value(p.two('%', least, most)), "0");
        due("twice the greatest", p.value(p.two('+', most, most)), "error o");
        due("twice the least", p.value(p.two('+', least, least)), "error o");
        due("the product of both", p.value(p.two('*', most, least)), "error o");
        due("a number that is no reckoning", p.value(p.text("9999999999")), "9999999999");
    }

    private static void reckonedDown() {
        for (int more = -1; more <= 2; more++) {
            Program p = new Program();
            int least = p.text("-999999998");
            String due = more <= 1 ? String.valueOf(-999999998 - more) : "error o";
            due("-999999998 - " + more, p.value(p.two('-', least, p.number(more))), due);
            due("-999999998 + " + -more, p.value(p.two('+', least, p.number(-more))), due);
        }
        Program p = new Program();
        int local = p.local(0);
        int one = p.number(1);
        int job = p.ran(4, p.set(local, p.text("999999998")), p.show(p.two('I', local, one)), p.trap(5),
            p.show(p.two('I', local, one)));
        due("I of 999999999 and 1", p.x.error(job), 'o');
        due("which gives nothing", p.looked(job, local), "999999999");
        due("I of 999999998 and 1", p.shown(job), "999999999");
    }

    private static void reckonedByLoops() {
        for (int from = 997; from <= 999; from++) {
            for (int sign = -1; sign <= 1; sign += 2) {
                Program p = new Program();
                int first = p.text((sign < 0 ? "-" : "") + "999999" + from);
                int last = p.text((sign < 0 ? "-" : "") + "999999999");
                p.line(0, p.show(p.text(".")));
                int job = p.ran(1 + 2 * (1000 - from), p.loop(1, first, p.number(sign), last, 0));
                due("times from " + from, p.x.output(job), 1000 - from);
                due("ready", p.x.state(job), 'r');
                p.x.run(job, 1);
                due("the step to more than nine digits", p.x.error(job), 'o');
                due("leaves the local", p.looked(job, p.local(1)), sign < 0 ? "-999999999" : "999999999");
            }
        }
        Program p = new Program();
        p.line(0, p.show(p.text(".")));
        int job = p.ran(200, p.loop(1, p.text("999999997"), p.number(1), p.text("999999998"), 0));
        due("a loop to 999999998", p.x.state(job), 'd');
        due("ends with nine digits", p.looked(job, p.local(1)), "999999999");
    }

    /** "There are the locals 0 to 7 .. and the globals 0 to 3". */
    private static void names() {
        for (int name = -1; name <= 8; name++) {
            Program p = new Program();
            int at = name;
            if (name < 0 || name > 7) {
                Check.fails("local " + name, IllegalArgumentException.class, () -> p.of('v', at, -1, 0));
            } else {
                int job = p.ran(1, p.set(p.local(name), p.number(name + 1)));
                for (int other = 0; other <= 7; other++) {
                    due("local " + other, p.looked(job, p.local(other)), other == name ? String.valueOf(name + 1) : "");
                }
            }
            if (name < 0 || name > 3) {
                Check.fails("global " + name, IllegalArgumentException.class, () -> p.of('g', at, -1, 0));
                Check.fails("nodes of global " + name, IllegalArgumentException.class, () -> p.x.nodes(at));
            } else {
                p.ran(1, p.set(p.global(name), p.number(1)));
                for (int other = 0; other <= 3; other++) {
                    due("nodes of global " + other, p.x.nodes(other), other == name ? 1 : 0);
                }
            }
        }
    }

    /** ".. of each job its own ones, and the globals 0 to 3, that all jobs share." */
    private static void ownLocals() {
        Program p = new Program();
        int set = p.set(p.local(7), p.number(1));
        int share = p.set(p.global(3), p.two('+', p.global(3), p.number(1)));
        int first = p.ran(2, set, share);
        int second = p.ran(2, p.show(p.local(7)), share);
        due("a local of the first", p.looked(first, p.local(7)), "1");
        due("none of the second", p.looked(second, p.local(7)), "");
        due("a global of both", p.looked(first, p.global(3)), "2");
    }

    /** ".. a value or none at its name, and at rows of 1 to 3 subscripts below; .. 's', as with a fourth one." */
    private static void rows() {
        for (int length = 0; length <= 5; length++) {
            Program p = new Program();
            int one = p.number(1);
            int[] row = new int[length];
            for (int i = 0; i < length; i++) {
                row[i] = p.number(i + 1);
            }
            int[] references = {p.local(0, row), p.global(0, row)};
            for (int reference : references) {
                int job = p.ran(1, p.set(reference, p.number(9)));
                due("set at " + length + " subscripts", p.x.state(job), length <= 3 ? 'd' : 'e');
                due("read there", p.looked(job, reference), length <= 3 ? "9" : "error s");
                due("asked there", p.x.lookError(job, p.one('D', reference)), length <= 3 ? '-' : 's');
            }
            due("one node, if any", p.x.nodes(0), length <= 3 ? 1 : 0);
            due("the last error", length <= 3 || p.x.error(0) == 's' && p.x.error(1) == 's', true);
            due("one more", p.value(one), "1");
        }
    }

    /** "subscripts are texts that are not empty, else it is the error 's'" */
    private static void emptySubscripts() {
        for (int length = 1; length <= 4; length++) {
            for (int empty = 0; empty < length; empty++) {
                Program p = new Program();
                int[] row = new int[length];
                for (int i = 0; i < length; i++) {
                    row[i] = i == empty ? p.text("") : p.number(0);
                }
                int local = p.local(0, row);
                int global = p.global(0, row);
                String where = "empty " + empty + " of " + length;
                due(where + ", local", p.value(local), "error s");
                due(where + ", global", p.value(global), "error s");
                due(where + ", D", p.value(p.one('D', local)), "error s");
                due(where + ", Q", p.value(p.one('Q', global)), "error s");
                due(where + ", G", p.value(p.two('G', global, local)), "error s");
                due(where + ", O", p.value(p.two('O', local, 0)), empty == length - 1 && length <= 3 ? "" : "error s");
                due(where + ", O back", p.value(p.two('O', global, 1)), empty == length - 1 && length <= 3 ? "" : "error s");
                due(where + ", k", p.x.state(p.ran(1, p.one('k', local))), 'e');
            }
        }
        for (int way = 0; way < 4; way++) {
            Program p = new Program();
            int fine = p.local(1);
            int empty = p.global(0, p.text(""));
            int[] ways = {p.two('m', empty, fine), p.two('m', fine, empty), p.set(empty, fine), p.lock(-1, empty)};
            int job = p.ran(1, ways[way], p.none('h'));
            due("an empty one by command " + way, p.x.state(job), 'e');
            due("its error", p.x.error(job), 's');
        }
        Program p = new Program();
        due("a space is not empty", p.value(p.local(0, p.text(" "))), "");
        due("nor is 0", p.value(p.local(0, p.number(0))), "");
    }

    /** "numbers ahead of other texts, by their size, others by their characters, shorter ones first where all are alike" */
    private static void orderOfSubscripts() {
        String[] inOrder = {"-999999999", "-10", "-9", "-1", "0", "1", "9", "10", "999999999", " ", "!", "-", "-0", "00", "01",
            "1000000000", "A", "a", "a ", "a0", "aa", "ab", "b", "~"};
        int[] had = {0, 5, 12, 23};
        for (int i = 0; i < inOrder.length; i++) {
            Program p = new Program();
            int one = p.number(1);
            int[] sets = new int[had.length];
            String next = "";
            String ahead = "";
            for (int j = 0; j < had.length; j++) {
                sets[had.length - 1 - j] = p.set(p.local(0, p.text(inOrder[had[j]])), one);
                next = next.isEmpty() && had[j] > i ? inOrder[had[j]] : next;
                ahead = had[j] < i ? inOrder[had[j]] : ahead;
            }
            int job = p.ran(4, sets);
            int node = p.local(0, p.text(inOrder[i]));
            int empty = p.local(0, p.text(""));
            due("behind " + inOrder[i], p.looked(job, p.two('O', node, 0)), next);
            due("ahead of " + inOrder[i], p.looked(job, p.two('O', node, 1)), ahead);
            due("the first one", p.looked(job, p.two('O', empty, 0)), inOrder[0]);
            due("the last one", p.looked(job, p.two('O', empty, 1)), inOrder[23]);
        }
        for (int i = 0; i + 1 < inOrder.length; i++) {
            Program q = new Program();
            int other = q.ran(2, q.set(q.local(0, q.text(inOrder[i + 1])), q.number(1)),
                q.set(q.local(0, q.text(inOrder[i])), q.number(1)));
            int none = q.local(0, q.text(""));
            due("the first of two", q.looked(other, q.two('O', none, 0)), inOrder[i]);
            due("the last of two", q.looked(other, q.two('O', none, 1)), inOrder[i + 1]);
        }
    }

    /** The same, whatever texts were made beside them. */
    private static void orderBesideOthers() {
        String[] others = {" ", "~", "a", "b", "0", "aaa"};
        for (String other : others) {
            Program p = new Program();
            int one = p.number(1);
            p.value(p.text("one"));
            p.value(p.text("a"));
            p.value(p.text(other));
            p.value(p.text("ab"));
            p.value(p.text(other + "x"));
            int job = p.ran(4, p.set(p.local(0, p.text("a")), one), p.set(p.local(0, p.text(other + "-")), one),
                p.set(p.local(0, p.text("ab")), one), p.set(p.local(0, p.text(other + "x")), one));
            due("behind a", p.looked(job, p.two('O', p.local(0, p.text("a")), 0)), other.equals("a") ? "a-" : other.equals("aaa")
                ? "aaa-" : "ab");
            due("ahead of ab", p.looked(job, p.two('O', p.local(0, p.text("ab")), 1)), other.equals("a") ? "a-"
                : other.equals("aaa") ? "aaax" : "a");
        }
    }

    /** The same characters are the same text, and a number is one, however they were made. */
    private static void sameTexts() {
        String[] texts = {"0", "5", "-5", "42", "05", "-0", "a", "ab", "", "-", "1234567890"};
        for (String text : texts) {
            Program p = new Program();
            int own = p.text(text);
            int from = p.number(3);
            int to = p.number(2 + text.length());
            int whole = p.two('_', p.text("x,"), p.two('_', own, p.text(",y")));
            int cut = p.of('E', whole, from, to);
            int piece = p.of('P', whole, p.text(","), p.number(2));
            due("cut " + text, p.value(p.two('=', cut, own)) + p.value(p.two('=', own, cut)), "11");
            due("a piece " + text, p.value(p.two('=', piece, own)) + p.value(p.two('=', own, piece)), "11");
            due("joined " + text, p.value(p.two('=', p.two('_', p.text(""), own), own)), "1");
            int job = p.ran(2, p.set(p.local(0, p.two('_', p.text("k"), own)), p.number(7)),
                p.set(p.local(1, p.of('E', p.two('_', own, p.text("k")), p.number(1), p.number(text.length() + 1))), p.number(8)));
            due("as a subscript", p.looked(job, p.local(0, p.two('_', p.text("k"), own))), "7");
            due("as another", p.looked(job, p.local(1, p.two('_', own, p.text("k")))), "8");
        }
        String[] alike = {"Aa", "BB", "AaAa", "BBBB", "AaBB", "BBAa", "C#", "Bb", "BC"};
        for (int i = 0; i < alike.length; i++) {
            for (int j = 0; j < alike.length; j++) {
                Program p = new Program();
                int job = p.ran(2, p.set(p.local(0, p.text(alike[i])), p.number(1)), p.set(p.local(0, p.text(alike[j])),
                    p.number(2)));
                due(alike[i] + " and " + alike[j], p.looked(job, p.local(0, p.text(alike[i]))), i == j ? "2" : "1");
                due("are the same", p.looked(job, p.two('=', p.text(alike[i]), p.text(alike[j]))), i == j ? "1" : "0");
            }
        }
    }

    /** Texts that something has are as they were, whatever texts are made later. */
    private static void textsStay() {
        Program p = new Program();
        int one = p.number(1);
        int count = p.local(7);
        int fresh = p.two('_', p.text("new"), p.two('I', count, one));
        int job = p.job(p.set(p.local(0), fresh), p.set(p.local(1, fresh), fresh), p.show(fresh), p.set(p.global(0, fresh), one),
            p.show(p.global(1, fresh, one)), p.show(fresh), p.set(p.naked(p.number(2)), p.text("under")), p.show(fresh),
            p.set(p.local(2), p.call(0, fresh)), p.show(fresh), p.one('k', p.global(3, fresh)), p.show(fresh));
        p.line(0, p.one('q', p.two('_', p.local(0), p.two('_', p.text("+"), fresh))));
        p.x.run(job, 12);
        due("done", p.x.state(job), 'd');
        due("a value", p.looked(job, p.local(0)), "new1");
        due("a subscript, done behind the value", p.looked(job, p.one('Q', p.local(1))), "new3");
        due("the value at it", p.looked(job, p.local(1, p.text("new3"))), "new2");
        due("a global's subscript", p.looked(job, p.one('Q', p.global(0))), "new5");
        due("a remembered one", p.looked(job, p.one('Q', p.global(1))), "new6,2");
        due("of a call", p.looked(job, p.local(2)), "new9+new1");
        p.x.flush();
        p.x.follow(99);
        due("in the replica", p.x.isSame(), true);
        p.x.crash();
        due("behind a crash", p.looked(job, p.one('Q', p.global(1))), "new6,2");
        p.x.look(job, p.two('_', p.text("look"), p.local(0)));
        p.lookedError(job);
        p.ran(1, p.show(p.two('_', p.text("other"), p.text("long text"))));
        due("what a look keeps", "" + p.x.lookAt(0) + p.x.lookAt(4) + p.x.lookAt(7), "ln1");
        Check.fails("no more of it", java.util.NoSuchElementException.class, () -> p.x.lookAt(8));
    }

    /** "nodes are in order by their first subscripts, then by the next, a node ahead of what is below it" */
    private static void orderOfNodes() {
        Program p = new Program();
        int one = p.number(1);
        int two = p.number(2);
        int[][] rows = {{}, {one}, {one, one}, {one, one, two}, {one, two}, {two}, {two, one, one}};
        String[] names = {"", "1", "1,1", "1,1,2", "1,2", "2", "2,1,1"};
        int[] commands = new int[rows.length];
        int[] queries = new int[rows.length];
        for (int i = 0; i < rows.length; i++) {
            int node = p.local(4, rows[i]);
            commands[(i * 3 + 2) % rows.length] = p.set(node, one);
            queries[i] = p.one('Q', node);
        }
        int job = p.ran(7, commands);
        for (int i = 0; i < rows.length; i++) {
            due("behind " + names[i], p.looked(job, queries[i]), i + 1 < rows.length ? names[i + 1] : "");
        }
    }

    /** "To kill a node takes its value and all below it" */
    private static void kills() {
        String[] killed = {"", "1", "1,1", "1,1,1", "1,2", "3", "1,1,2"};
        String[] left = {"", "0;2;", "0;1;1,2;2;", "0;1;1,1;1,2;2;", "0;1;1,1;1,1,1;2;", "0;1;1,1;1,1,1;1,2;2;",
            "0;1;1,1;1,1,1;1,2;2;"};
        for (int i = 0; i < killed.length; i++) {
            Program p = new Program();
            String[] rows = {"", "0", "1", "1,1", "1,1,1", "1,2", "2"};
            int[] commands = new int[rows.length + 1];
            for (int row = 0; row < rows.length; row++) {
                commands[row] = p.set(at(p, rows[row]), p.number(row));
            }
            commands[rows.length] = p.one('k', at(p, killed[i]));
            int job = p.ran(8, commands);
            due("left behind a kill of " + killed[i], walk(p, job), left[i]);
            due("the value of the name", p.looked(job, p.one('D', p.local(0))), i == 0 ? "0" : "11");
        }
    }

    private static int at(Program p, String row) {
        if (row.isEmpty()) {
            return p.local(0);
        }
        String[] parts = row.split(",");
        int[] subscripts = new int[parts.length];
        for (int i = 0; i < parts.length; i++) {
            subscripts[i] = p.text(parts[i]);
        }
        return p.local(0, subscripts);
    }

    /** The rows below the name of the local 0 that have values. */
    private static String walk(Program p, int job) {
        StringBuilder s = new StringBuilder();
        String row = p.looked(job, p.one('Q', p.local(0)));
        for (int i = 0; i < 9 && !row.isEmpty(); i++) {
            s.append(row).append(';');
            row = p.looked(job, p.one('Q', at(p, row)));
        }
        return s.toString();
    }

    private static void killsAlone() {
        Program p = new Program();
        int one = p.number(1);
        int node = p.global(0, one, one, one);
        int job = p.ran(3, p.one('k', node), p.set(node, one), p.one('k', p.global(0)));
        due("a kill of nothing is none of an error", p.x.state(job), 'd');
        due("nothing is left", p.x.nodes(0), 0);
        due("three changes", p.x.written(), 3);
        int other = p.ran(2, p.set(p.global(0, one, one), one), p.one('k', p.global(0, one, one, one)));
        due("a kill below leaves what is above", p.looked(other, p.global(0, one, one)), "1");
    }

    /** "to merge one into another gives that the values of the first one and of all below it, in order, at the same rows" */
    private static void merges() {
        Program p = new Program();
        int one = p.number(1);
        int two = p.number(2);
        int job = p.ran(6, p.set(p.local(1, one), p.text("a")), p.set(p.local(1, one, two), p.text("b")),
            p.set(p.local(1, two), p.text("no")), p.set(p.local(0, one), p.text("old")), p.set(p.local(0, two), p.text("c")),
            p.two('m', p.local(0), p.local(1, one)));
        due("its value", p.looked(job, p.local(0)), "a");
        due("what is below it", p.looked(job, p.local(0, two)), "b");
        due("what was there", p.looked(job, p.local(0, one)), "old");
        due("no more", walk(p, job), "1;2;");
        int other = p.ran(2, p.set(p.local(0), one), p.two('m', p.local(0), p.local(1)));
        due("of nothing", p.looked(other, p.one('D', p.local(0))), "1");
        Program q = new Program();
        int first = q.number(1);
        int last = q.ran(4, q.set(q.local(0, q.text("x")), first), q.set(q.local(0, q.number(9)), first),
            q.set(q.local(0), first), q.two('m', q.global(1), q.local(0)));
        due("changes in order", q.x.written(), 3);
        q.x.flush();
        for (int i = 1; i <= 3; i++) {
            q.x.follow(1);
            due("same behind " + i, q.x.isSame(), i == 3);
        }
        due("the first one's value", q.looked(last, q.one('D', q.global(1))), "11");
    }

    /** "a row of more than 3 being left out" */
    private static void mergesTooDeep() {
        for (int depth = 0; depth <= 3; depth++) {
            for (int to = 0; to <= 3; to++) {
                Program p = new Program();
                int one = p.number(1);
                int[] from = new int[depth];
                java.util.Arrays.fill(from, one);
                int[] into = new int[to];
                java.util.Arrays.fill(into, one);
                int job = p.ran(2, p.set(p.local(1, from), p.number(7)), p.two('m', p.global(0, into), p.local(1)));
                due("no error", p.x.state(job), 'd');
                due("a row of " + (depth + to), p.x.nodes(0), depth + to <= 3 ? 1 : 0);
                due("changes", p.x.written(), depth + to <= 3 ? 1 : 0);
                if (depth + to <= 3) {
                    int[] row = new int[depth + to];
                    java.util.Arrays.fill(row, one);
                    due("its value", p.looked(job, p.global(0, row)), "7");
                }
            }
        }
    }

    /** "a node within itself, or above, is merged as it was ahead of that" */
    private static void mergesWithin() {
        Program p = new Program();
        int one = p.number(1);
        int name = p.global(0);
        int below = p.global(0, one);
        int deepest = p.global(0, one, one, one);
        int job = p.ran(2, p.set(name, p.text("a")), p.two('m', below, name));
        due("within itself", p.x.nodes(0), 2);
        due("as it was", p.looked(job, below), "a");
        p.ran(1, p.two('m', below, name));
        due("once more", p.x.nodes(0), 3);
        due("two steps down", p.looked(job, p.global(0, one, one)), "a");
        Program q = new Program();
        int first = q.number(1);
        int other = q.ran(3, q.set(q.global(0, first), q.text("x")), q.set(q.global(0, first, first), q.text("y")),
            q.two('m', q.global(0), q.global(0, first)));
        due("above", q.looked(other, q.global(0)), "x");
        due("the row that it had itself", q.looked(other, q.global(0, first)), "y");
        due("what it had below stays", q.looked(other, q.global(0, first, first)), "y");
        due("two values", q.x.written(), 4);
        int third = q.ran(1, q.two('m', q.global(0), q.global(0)));
        due("into itself", q.looked(third, q.global(0)), "x");
        due("which writes all again", q.x.written(), 7);
        due("the deepest one", p.looked(job, deepest), "");
    }

    /** "Each reference to a global, as it is done, remembers its name and all of its subscripts but the last one" */
    private static void remembered() {
        for (int length = 1; length <= 3; length++) {
            for (int way = 0; way < 9; way++) {
                rememberedBy(length, way);
            }
        }
    }

    private static void rememberedBy(int length, int way) {
        Program p = new Program();
        int[] row = new int[length];
        int[] beside = new int[length];
        for (int i = 0; i < length; i++) {
            row[i] = p.number(i + 1);
            beside[i] = i == length - 1 ? p.text("x") : row[i];
        }
        int global = p.global(3, row);
        int one = p.number(1);
        int[] ways = {p.set(global, one), p.one('k', global), p.two('m', global, p.local(0)), p.show(global),
            p.show(p.one('D', global)), p.show(p.two('O', global, 0)), p.show(p.one('Q', global)),
            p.show(p.two('G', global, one)), p.show(p.two('I', global, one))};
        int job = p.ran(2, ways[way], p.set(p.naked(p.text("x")), p.number(42)));
        due("remembered by way " + way + " of " + length, p.looked(job, p.global(3, beside)), "42");
    }

    /** ".. or nothing, if it has none. .. it is the error 'n' if nothing is remembered" */
    private static void nothingRemembered() {
        Program p = new Program();
        int one = p.number(1);
        int naked = p.naked(one);
        due("at first", p.shownBy(naked), "error n");
        int job = p.ran(3, p.show(p.global(0, one)), p.show(naked), p.show(p.text("+")), p.show(p.global(0)), p.show(naked));
        due("behind one subscript", p.shown(job), "+");
        p.x.run(job, 2);
        due("behind none", p.x.error(job), 'n');
        int other = p.ran(2, p.set(p.naked(one), one));
        due("a set", p.x.error(other), 'n');
        Program q = new Program();
        int first = q.number(1);
        q.line(0, q.show(q.naked(first)));
        int third = q.ran(4, q.show(q.global(2, first)), q.show(q.local(0)), q.show(q.local(0, first)), q.of('d', 0, 0, 0),
            q.show(first));
        due("locals leave it", q.x.run(third, 2), 2);
        due("and frames", q.shown(third), "1");
        Check.fails("no error", java.util.NoSuchElementException.class, () -> q.x.error(third));
        int fourth = q.ran(1, q.of('d', 0, 0, 0));
        q.x.run(fourth, 1);
        due("each job has its own", q.x.error(fourth), 'n');
    }

    /** "A naked reference is to that global, with the remembered subscripts and its own ones behind" */
    private static void nakedRows() {
        for (int length = 1; length <= 3; length++) {
            for (int own = 1; own <= 4; own++) {
                Program p = new Program();
                int[] row = new int[length];
                for (int i = 0; i < length; i++) {
                    row[i] = p.number(i + 1);
                }
                int[] mine = new int[own];
                for (int i = 0; i < own; i++) {
                    mine[i] = p.number(7 + i);
                }
                int[] whole = new int[length - 1 + own];
                System.arraycopy(row, 0, whole, 0, length - 1);
                System.arraycopy(mine, 0, whole, length - 1, own);
                int job = p.ran(3, p.show(p.global(1, row)), p.set(p.naked(mine), p.text("q")),
                    p.set(p.naked(p.number(50)), p.text("r")));
                boolean isFit = whole.length <= 3;
                String what = length - 1 + " remembered and " + own;
                due(what, p.x.state(job), isFit ? 'd' : 'e');
                due(what + ", error", isFit || p.x.error(job) == 's', true);
                due(what + ", node", p.looked(job, p.global(1, whole)), isFit ? "q" : "error s");
                if (isFit) {
                    whole[whole.length - 1] = p.number(50);
                    due(what + ", remembered likewise", p.looked(job, p.global(1, whole)), "r");
                }
            }
        }
    }

    /** ".. it is the error 'n' if nothing is remembered, its parts being done, ahead of the error 's'." */
    private static void nakedParts() {
        Program p = new Program();
        int one = p.number(1);
        int empty = p.text("");
        due("the error of a part", p.shownBy(p.naked(p.two('/', one, empty))), "error z");
        due("n ahead of s for an empty one", p.shownBy(p.naked(empty)), "error n");
        due("n ahead of s for a fourth one", p.shownBy(p.naked(one, one, one, one)), "error n");
        Program q = new Program();
        int first = q.number(1);
        int second = q.number(2);
        int global = q.global(2, second, first);
        int job = q.ran(3, q.set(global, q.number(5)), q.show(q.global(0, first, first)), q.set(q.naked(global), second));
        due("a part remembers ahead of it", q.looked(job, q.global(2, second, q.number(5))), "2");
        due("s with what is remembered", q.shownBy(q.two('_', q.global(0, first), q.naked(q.text("")))), "error s");
    }

    /** "then the reference is remembered, but not one that is an error" */
    private static void errorsRememberNothing() {
        for (int kind = 0; kind < 5; kind++) {
            Program p = new Program();
            int one = p.number(1);
            int empty = p.text("");
            int[] wrong = {p.show(p.global(1, one, empty)), p.show(p.global(1, one, one, one, one)),
                p.show(p.two('O', p.global(1), 0)), p.show(p.naked(empty)), p.set(p.naked(one, one, one), one)};
            p.line(0, p.set(p.naked(p.number(2)), p.text("kept")));
            int job = p.ran(4, p.trap(0), p.show(p.global(0, one, one)), wrong[kind]);
            due("the error", p.x.error(job), 's');
            due("what was remembered ahead of it, " + kind, p.looked(job, p.global(0, one, p.number(2))), "kept");
        }
        Program p = new Program();
        int one = p.number(1);
        int inner = p.global(2, one, one);
        p.line(0, p.set(p.naked(p.number(2)), p.text("kept")));
        int job = p.ran(4, p.trap(0), p.show(p.global(0, one, one)), p.show(p.global(1, inner)));
        due("the subscripts of an error are remembered", p.looked(job, p.global(2, one, p.number(2))), "kept");
    }

    /** "A list of subscripts is done from its first part on, all of it ahead of an error 's'" */
    private static void partsAheadOfErrors() {
        Program p = new Program();
        int one = p.number(1);
        int empty = p.text("");
        int zero = p.two('/', one, empty);
        int naked = p.naked(one);
        due("behind an empty one", p.value(p.local(0, empty, zero)), "error z");
        due("behind four", p.value(p.local(0, one, one, one, one, zero)), "error z");
        due("the first one first", p.value(p.local(0, zero, naked)), "error z");
        due("then the second", p.value(p.local(0, naked, zero)), "error n");
        int count = p.local(1);
        int more = p.two('I', count, one);
        p.line(0, p.show(count));
        int job = p.ran(3, p.trap(0), p.show(p.local(0, more, empty, more, more, more)));
        due("all five parts are done", p.looked(job, count), "4");
        due("then the error", p.x.error(job), 's');
        int other = p.ran(1, p.set(p.local(2, more, p.two('*', more, p.number(10))), one));
        due("in their order", p.looked(other, p.one('Q', p.local(2))), "1,20");
    }
}
