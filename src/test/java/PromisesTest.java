/** Each promise of the document by itself: ordinary inputs, the edges that it names, and wrong inputs. */
public final class PromisesTest {
    private static final int NONE = FlushProofs.NONE;
    private static final int FALSE = 0;
    private static final int TRUE = 1;
    private static final int FETCH = 2;
    private static final Class<?> NO_INDEX = IndexOutOfBoundsException.class;
    private static final Class<?> WRONG_SORT = IllegalArgumentException.class;
    private static final Class<?> NO_ROOM = UnsupportedOperationException.class;
    private static final Class<?> WRONG_STATE = IllegalStateException.class;

    private static int wrong = 0;

    private interface Call {
        Object answer();
    }

    private static void due(String what, Object got, Object want) {
        if (!got.equals(want)) {
            wrong++;
            System.out.println(what + " answered " + got + ", due is " + want);
        }
    }

    private static void refused(String what, Class<?> want, Call call) {
        Object got;
        try {
            got = call.answer();
        } catch (RuntimeException e) {
            got = e.getClass();
        }
        due(what, got, want);
    }

    private static void dueNode(Probe x, int node, int... parts) {
        for (int what = 0; what < 4; what++) {
            due("node(" + node + ", " + what + ")", x.node(node, what), parts[what]);
        }
    }

    private static void dueCounts(Probe x, int... counts) {
        for (int what = 0; what < counts.length; what++) {
            due("count(" + what + ")", x.count(what), counts[what]);
        }
    }

    private static void dueState(Probe x, int fetch, int... values) {
        due("witness(NONE)", x.witness(NONE), fetch);
        for (int e = 0; e < values.length; e++) {
            due("witness(" + e + ")", x.witness(e), values[e]);
        }
        refused("witness behind the last", NO_INDEX, () -> x.witness(values.length));
    }

    /** A word and a chain of applications, until there are so many nodes. */
    private static void fill(Probe x, int nodes) {
        int last = x.word();
        for (int left = nodes - x.count(0); left > 0; left--) {
            last = x.apply(0, last, NONE);
        }
    }

    private static void newObject() {
        Probe x = new Probe();
        due("NONE", NONE, -1);
        dueCounts(x, 3, 0, 0, 0, 0, 0);
        dueNode(x, FALSE, 0, NONE, NONE, NONE);
        dueNode(x, TRUE, 1, NONE, NONE, NONE);
        dueNode(x, FETCH, 2, NONE, NONE, NONE);
        refused("node(3, 0)", NO_INDEX, () -> x.node(3, 0));
        refused("differs()", WRONG_STATE, x::differs);
        refused("witness(NONE)", WRONG_STATE, () -> x.witness(NONE));
        for (int depth = 0; depth <= 8; depth++) {
            due("run of nothing", x.run(depth), 1);
        }
        dueCounts(x, 3, 0, 0, 0, 0, 0);
    }

    private static void elements() {
        Probe x = new Probe();
        for (int e = 0; e < 16; e++) {
            due("element " + e, e % 3 == 0 ? x.truth() : x.word(), 3 + e);
            dueNode(x, 3 + e, e % 3 == 0 ? 4 : 3, e, NONE, NONE);
        }
        refused("17th element, a word", NO_ROOM, x::word);
        refused("17th element, a truth", NO_ROOM, x::truth);
        dueCounts(x, 19, 16, 0, 0);

        Probe y = new Probe();
        fill(y, 299);
        due("the 300th node", y.truth(), 299);
        refused("301st node, a word", NO_ROOM, y::word);
        refused("301st node, a truth", NO_ROOM, y::truth);
        dueCounts(y, 300, 2);
    }

    private static void applications() {
        Probe x = new Probe();
        int a = x.word();
        int b = x.word();
        int t = x.truth();
        due("apply", x.apply(7, a, b), 6);
        due("apply again", x.apply(7, a, b), 6);
        due("apply the other way", x.apply(7, b, a), 7);
        due("apply to one", x.apply(7, a, NONE), 8);
        due("apply another", x.apply(0, a, NONE), 9);
        due("apply to one twice", x.apply(0, a, a), 10);
        dueNode(x, 6, 5, a, b, 7);
        dueNode(x, 7, 5, b, a, 7);
        dueNode(x, 8, 5, a, NONE, 7);
        dueNode(x, 10, 5, a, a, 0);
        refused("no node", NO_INDEX, () -> x.apply(0, 11, NONE));
        refused("no second node", NO_INDEX, () -> x.apply(0, a, -2));
        refused("NONE ahead", NO_INDEX, () -> x.apply(0, NONE, a));
        refused("no node, no function", NO_INDEX, () -> x.apply(8, a, 11));
        refused("a truth, no second node", NO_INDEX, () -> x.apply(0, t, 11));
        refused("function 8", WRONG_SORT, () -> x.apply(8, a, b));
        refused("function -1", WRONG_SORT, () -> x.apply(-1, a, NONE));
        refused("a truth ahead", WRONG_SORT, () -> x.apply(0, t, NONE));
        refused("a truth behind", WRONG_SORT, () -> x.apply(0, a, FALSE));
        due("no node came", x.count(0), 11);

        Probe y = new Probe();
        fill(y, 300);
        refused("301st node", NO_ROOM, () -> y.apply(1, 3, NONE));
        refused("no function ahead of no room", WRONG_SORT, () -> y.apply(8, 3, NONE));
        due("one that is there", y.apply(0, 3, NONE), 4);
    }

    private static void equalities() {
        Probe x = new Probe();
        int a = x.word();
        int b = x.word();
        int t = x.truth();
        due("equal", x.equal(b, a), 6);
        due("equal either way", x.equal(a, b), 6);
        due("equal to itself", x.equal(a, a), TRUE);
        dueNode(x, 6, 6, a, b, NONE);
        refused("no node", NO_INDEX, () -> x.equal(t, 7));
        refused("NONE", NO_INDEX, () -> x.equal(NONE, a));
        refused("a truth", WRONG_SORT, () -> x.equal(t, a));
        refused("a truth behind", WRONG_SORT, () -> x.equal(a, t));
        refused("a truth twice", WRONG_SORT, () -> x.equal(t, t));

        Probe y = new Probe();
        fill(y, 300);
        refused("301st node", NO_ROOM, () -> y.equal(3, 4));
        due("nothing new", y.equal(4, 4), TRUE);
    }

    private static void nots() {
        Probe x = new Probe();
        int t = x.truth();
        int w = x.word();
        due("not", x.not(t), 5);
        due("not again", x.not(t), 5);
        due("not not", x.not(5), t);
        due("not TRUE", x.not(TRUE), FALSE);
        due("not FALSE", x.not(FALSE), TRUE);
        due("not FETCH", x.not(FETCH), 6);
        dueNode(x, 5, 7, t, NONE, NONE);
        refused("no node", NO_INDEX, () -> x.not(7));
        refused("NONE", NO_INDEX, () -> x.not(NONE));
        refused("a word", WRONG_SORT, () -> x.not(w));

        Probe y = new Probe();
        fill(y, 300);
        refused("301st node", NO_ROOM, () -> y.not(FETCH));
        due("nothing new", y.not(TRUE), FALSE);
    }

    private static void boths() {
        Probe x = new Probe();
        int s = x.truth();
        int t = x.truth();
        int w = x.word();
        due("both", x.both(t, s), 6);
        due("both either way", x.both(s, t), 6);
        due("both with FALSE", x.both(FALSE, s), FALSE);
        due("both with FALSE behind", x.both(s, FALSE), FALSE);
        due("both with TRUE", x.both(TRUE, s), s);
        due("both with TRUE behind", x.both(s, TRUE), s);
        due("both of one", x.both(s, s), s);
        dueNode(x, 6, 8, s, t, NONE);
        int n = x.not(s);
        due("both of one and its not is made", x.both(s, n), 8);
        refused("no node", NO_INDEX, () -> x.both(w, 9));
        refused("a word", WRONG_SORT, () -> x.both(w, s));
        refused("a word behind FALSE", WRONG_SORT, () -> x.both(FALSE, w));

        Probe y = new Probe();
        int p = y.truth();
        fill(y, 300);
        refused("301st node", NO_ROOM, () -> y.both(p, FETCH));
        due("nothing new", y.both(p, TRUE), p);
    }

    private static void choices() {
        Probe x = new Probe();
        int c = x.truth();
        int a = x.word();
        int b = x.word();
        due("choice of words", x.choice(c, a, b), 6);
        due("choice again", x.choice(c, a, b), 6);
        due("choice the other way", x.choice(c, b, a), 7);
        due("choice of TRUE", x.choice(TRUE, a, b), a);
        due("choice of FALSE", x.choice(FALSE, a, b), b);
        due("choice of one", x.choice(c, b, b), b);
        due("choice of truths", x.choice(c, TRUE, FALSE), 8);
        dueNode(x, 6, 9, c, a, b);
        dueNode(x, 8, 9, c, TRUE, FALSE);
        due("a choice of words is a word", x.equal(6, 7), 9);
        due("a choice of truths is a truth", x.not(8), 10);
        refused("a choice of words is no truth", WRONG_SORT, () -> x.not(6));
        refused("a choice of truths is no word", WRONG_SORT, () -> x.equal(8, a));
        refused("no node", NO_INDEX, () -> x.choice(a, a, 11));
        refused("no node ahead", NO_INDEX, () -> x.choice(NONE, c, a));
        refused("a word ahead", WRONG_SORT, () -> x.choice(a, a, b));
        refused("two sorts", WRONG_SORT, () -> x.choice(c, a, c));
        refused("two sorts, of TRUE", WRONG_SORT, () -> x.choice(TRUE, c, a));

        Probe y = new Probe();
        fill(y, 300);
        refused("301st node", NO_ROOM, () -> y.choice(FETCH, 3, 4));
        due("nothing new", y.choice(TRUE, 3, 4), 3);
    }

    private static void nexts() {
        Probe x = new Probe();
        int a = x.word();
        int t = x.truth();
        due("next", x.next(0, a), false);
        due("next again", x.next(0, a), true);
        due("next with FETCH", x.next(1, FETCH), false);
        refused("element 2", NO_INDEX, () -> x.next(2, a));
        refused("element -1", NO_INDEX, () -> x.next(-1, a));
        refused("node 5", NO_INDEX, () -> x.next(0, 5));
        refused("a truth for a word", WRONG_SORT, () -> x.next(0, t));
        refused("a word for a truth", WRONG_SORT, () -> x.next(1, a));
        // Steps take all elements as they were: two that are swapped stay two.
        Probe y = new Probe();
        int p = y.word();
        int q = y.word();
        y.next(0, q);
        y.next(1, p);
        y.plain(0, q);
        y.plain(1, p);
        due("swapped", y.run(0), 1);
        due("swapped twice and once more", y.run(2), 1);
        y.next(1, q);
        due("no longer swapped", y.run(0), 0);
        dueState(y, 1, 0, 1);
        due("differs", y.differs(), 1);
    }

    private static void plains() {
        Probe x = new Probe();
        int a = x.word();
        int t = x.truth();
        int f = x.choice(FETCH, x.apply(0, a, NONE), a);
        int n = x.not(FETCH);
        due("plain", x.plain(1, t), false);
        due("plain again", x.plain(1, TRUE), true);
        due("seen", x.count(2), 1);
        refused("FETCH", WRONG_SORT, () -> x.plain(1, FETCH));
        refused("FETCH within", WRONG_SORT, () -> x.plain(0, f));
        refused("FETCH within not", WRONG_SORT, () -> x.plain(1, n));
        int behind = x.both(x.equal(a, x.apply(1, a, a)), n);
        refused("FETCH within both, behind", WRONG_SORT, () -> x.plain(1, behind));
        int second = x.choice(t, FETCH, FALSE);
        refused("FETCH as a choice's first one", WRONG_SORT, () -> x.plain(1, second));
        int third = x.choice(t, FALSE, FETCH);
        refused("FETCH as a choice's second one", WRONG_SORT, () -> x.plain(1, third));
        refused("element 2", NO_INDEX, () -> x.plain(2, n));
        refused("element -1", NO_INDEX, () -> x.plain(-1, t));
        refused("no node", NO_INDEX, () -> x.plain(0, 99));
        refused("a truth for a word", WRONG_SORT, () -> x.plain(0, t));
        refused("a word for a truth", WRONG_SORT, () -> x.plain(1, a));
        due("still seen", x.count(2), 1);
        due("a choice of FETCH that is none", x.plain(0, x.choice(FETCH, a, a)), false);
        due("both seen", x.count(2), 2);
    }

    private static void invariants() {
        Probe x = new Probe();
        int t = x.truth();
        int w = x.word();
        for (int i = 0; i < 8; i++) {
            due("invariant", x.invariant(i % 2 == 0 ? t : TRUE), i);
        }
        refused("a ninth", WRONG_STATE, () -> x.invariant(t));
        refused("no node", NO_INDEX, () -> x.invariant(5));
        refused("NONE", NO_INDEX, () -> x.invariant(NONE));
        refused("a word", WRONG_SORT, () -> x.invariant(w));
        refused("FETCH", WRONG_SORT, () -> x.invariant(FETCH));
        int n = x.both(t, FETCH);
        refused("FETCH within", WRONG_SORT, () -> x.invariant(n));
        due("eight", x.count(3), 8);
        x.plain(0, TRUE);
        due("holds whenever invariants do", x.run(0), 1);
    }

    /** Two stages: a fetched instruction waits in a latch, and is carried out by the next step. */
    private static Probe pipeline(boolean emptied) {
        Probe x = new Probe();
        int pc = x.word();
        int register = x.word();
        int latch = x.word();
        int full = x.truth();
        x.next(0, x.choice(FETCH, x.apply(0, pc, NONE), pc));
        x.next(2, x.choice(FETCH, pc, latch));
        x.next(3, FETCH);
        int done = x.apply(1, register, latch);
        x.next(1, emptied ? x.choice(full, done, register) : done);
        x.plain(0, x.apply(0, pc, NONE));
        x.plain(1, x.apply(1, register, pc));
        return x;
    }

    private static void runs() {
        Probe x = pipeline(true);
        due("too early", x.run(0), 0);
        due("differs", x.differs(), 1);
        dueState(x, 1, 0, 0, 0, 0);
        for (int depth = 1; depth <= 8; depth++) {
            due("flushed", x.run(depth), 1);
        }
        refused("depth -1", WRONG_SORT, () -> x.run(-1));
        refused("depth 9", WRONG_SORT, () -> x.run(9));
        Probe y = pipeline(false);
        due("carried out again and again", y.run(1), 1);
        due("too large by two", y.run(2), 2);
        due("nine words", y.count(4), 9);
    }

    /** Of seven words, and of six truths, a question is not too large; of one more it is. */
    private static void sizes() {
        Probe x = new Probe();
        int w = x.word();
        int all = w;
        for (int i = 0; i < 6; i++) {
            all = x.apply(0, all, NONE);
        }
        x.plain(0, all);
        due("seven words", x.run(0), 0);
        dueCounts(x, 9 + 1, 1, 1, 0, 7, 0);
        x.plain(0, x.apply(0, all, NONE));
        due("eight words", x.run(0), 2);
        dueCounts(x, 11, 1, 1, 0, 8, 0);
        refused("no state", WRONG_STATE, () -> x.witness(0));
        refused("no difference", WRONG_STATE, x::differs);

        Probe y = new Probe();
        int sum = TRUE;
        for (int i = 0; i < 6; i++) {
            sum = y.both(sum, y.truth());
        }
        y.plain(0, sum);
        due("six truths", y.run(0), 0);
        due("six", y.count(5), 6);
        dueState(y, 1, 1, 0, 0, 0, 0, 0);
        int seventh = y.both(sum, y.truth());
        y.plain(0, seventh);
        due("seven truths", y.run(0), 2);
        due("seven", y.count(5), 7);
        y.invariant(sum);
        due("kept, of six truths", y.kept(0), 1);
        y.next(5, y.both(sum, FETCH));
        due("kept, with FETCH a seventh", y.kept(0), 2);
        due("seven", y.count(5), 7);
    }

    /** The same node both ways has nothing to be shown, but is deep all the same. */
    private static void deepNodes() {
        Probe x = new Probe();
        int a = x.word();
        int b = x.word();
        int t = x.truth();
        int u = x.truth();
        int node = x.choice(t, x.apply(0, a, NONE), b);
        x.next(0, node);
        x.plain(0, node);
        due("the same", x.run(0), 1);
        dueCounts(x, 9, 4, 1, 0, 3, 1);
        x.invariant(u);
        due("with an invariant", x.run(0), 1);
        dueCounts(x, 9, 4, 1, 1, 3, 2);
        // With a fetch the choice is gone, and with it what it was made of.
        x.next(0, x.choice(FETCH, a, x.apply(7, b, b)));
        x.plain(0, a);
        due("nothing of the other way left", x.run(0), 1);
        dueCounts(x, 11, 4, 1, 1, 1, 1);
        due("kept", x.kept(0), 1);
        dueCounts(x, 11, 4, 1, 1, 0, 1);
    }

    private static void functions() {
        Probe x = new Probe();
        int a = x.word();
        int b = x.word();
        int fa = x.apply(0, a, NONE);
        int fb = x.apply(0, b, NONE);
        int ga = x.apply(0, a, a);
        x.truth();
        // f(a) = f(b), whenever a = b; f(a) = f(a, a) not even then.
        x.next(2, x.equal(fa, fb));
        x.plain(2, TRUE);
        x.invariant(x.equal(a, b));
        due("the same for the same", x.run(0), 1);
        x.next(2, x.equal(fa, ga));
        due("one argument and two are two functions", x.run(0), 0);
        dueState(x, 1, 0, 0, 0);
        x.next(2, x.equal(x.apply(1, a, NONE), fb));
        due("two functions", x.run(0), 0);
        x.next(2, x.equal(x.apply(3, a, b), x.apply(3, b, a)));
        due("two arguments, the same", x.run(0), 1);
        int c = x.word();
        x.next(2, x.equal(x.apply(3, a, b), x.apply(3, a, c)));
        due("two arguments, the second not the same", x.run(0), 0);
        dueState(x, 1, 0, 0, 0, 1);
    }

    /** The state in which seven words are seven numbers is the only one that fails. */
    private static void sevenNumbers() {
        Probe x = new Probe();
        int c = x.truth();
        int[] words = new int[7];
        for (int i = 0; i < 7; i++) {
            words[i] = x.word();
        }
        int distinct = TRUE;
        for (int i = 0; i < 7; i++) {
            for (int j = 0; j < i; j++) {
                distinct = x.both(distinct, x.not(x.equal(words[i], words[j])));
            }
        }
        x.plain(0, x.choice(distinct, x.not(c), c));
        due("seven numbers", x.run(0), 0);
        dueState(x, 1, 0, 0, 1, 2, 3, 4, 5, 6);
        // The last two by a choice: 5 and 6 are not the same as 1 and 2.
        int chosen = x.choice(c, words[5], words[6]);
        x.plain(0, x.choice(x.both(distinct, x.equal(chosen, words[2])), x.not(c), c));
        due("a choice is one of its own", x.run(0), 1);
        x.plain(0, x.choice(x.both(distinct, x.equal(chosen, words[6])), x.not(c), c));
        due("the second one", x.run(0), 0);
        dueState(x, 1, 0, 0, 1, 2, 3, 4, 5, 6);
        x.plain(0, x.choice(x.both(distinct, x.equal(chosen, words[5])), x.not(c), c));
        due("the first one", x.run(0), 0);
        dueState(x, 1, 1, 0, 1, 2, 3, 4, 5, 6);
        x.plain(0, x.choice(c, x.equal(words[0], words[1]), FALSE));
        due("another state, of which no number is left", x.run(0), 0);
        dueState(x, 1, 1, 0, 1, 0, 0, 0, 0, 0);
    }

    private static void leastStates() {
        Probe x = new Probe();
        int unused = x.word();
        int a = x.word();
        int s = x.truth();
        int b = x.word();
        int t = x.truth();
        int c = x.word();
        // Fails where t is 1 and a, b, c are three.
        int three = x.both(x.not(x.equal(a, b)), x.both(x.not(x.equal(b, c)), x.not(x.equal(a, c))));
        x.plain(4, x.both(t, x.not(three)));
        due("three numbers", x.run(0), 0);
        due("differs", x.differs(), 4);
        dueState(x, 1, 0, 0, 0, 1, 1, 2);
        x.invariant(x.equal(unused, unused));
        x.invariant(x.not(x.equal(unused, a)));
        due("one more deep word", x.run(0), 0);
        dueState(x, 1, 0, 1, 0, 0, 1, 2);
        x.invariant(s);
        due("a truth that has to be", x.run(0), 0);
        dueState(x, 1, 0, 1, 1, 0, 1, 2);
        // Truths go ahead of words: with s 0, all words the same would do.
        Probe y = new Probe();
        int p = y.word();
        int q = y.word();
        int r = y.truth();
        y.plain(2, y.choice(y.equal(p, q), y.not(r), r));
        due("words the same", y.run(0), 0);
        dueState(y, 1, 0, 0, 0);
        y.plain(2, y.choice(r, y.not(y.equal(p, q)), y.equal(p, q)));
        due("truth first, then words", y.run(0), 0);
        dueState(y, 1, 0, 0, 0);
        y.plain(2, y.choice(r, y.not(y.equal(p, q)), y.not(y.equal(p, q))));
        due("a lesser truth with greater words", y.run(0), 0);
        dueState(y, 1, 0, 1, 0);
    }

    private static void kepts() {
        Probe x = new Probe();
        int a = x.word();
        int b = x.word();
        int t = x.truth();
        x.invariant(x.equal(a, b));
        due("kept as it is", x.kept(0), 1);
        dueCounts(x, 7, 3, 0, 1, 2, 0);
        x.next(0, x.apply(0, a, NONE));
        due("not kept", x.kept(0), 0);
        due("differs", x.differs(), NONE);
        dueState(x, 0, 0, 0, 0);
        x.next(1, x.apply(0, b, NONE));
        due("kept by both", x.kept(0), 1);
        x.next(1, x.choice(x.both(FETCH, t), b, x.apply(0, b, NONE)));
        due("not kept with a fetch", x.kept(0), 0);
        dueState(x, 1, 0, 0, 1);
        due("FETCH counts", x.count(5), 2);
        int only = x.invariant(x.not(t));
        due("kept whenever all hold", x.kept(0), 1);
        due("kept", x.kept(only), 1);
        x.next(2, x.not(FETCH));
        due("not kept without a fetch", x.kept(only), 0);
        dueState(x, 0, 0, 0, 0);
        refused("no invariant", NO_INDEX, () -> x.kept(2));
        refused("invariant -1", NO_INDEX, () -> x.kept(-1));
    }

    private static void witnesses() {
        Probe x = new Probe();
        int t = x.truth();
        x.plain(0, x.not(t));
        due("fails", x.run(0), 0);
        x.word();
        refused("an element that came later", NO_INDEX, () -> x.witness(1));
        refused("element -2", NO_INDEX, () -> x.witness(-2));
        due("an element that was there", x.witness(0), 0);
        refused("a refused run", WRONG_SORT, () -> x.run(9));
        refused("a refused kept", NO_INDEX, () -> x.kept(0));
        due("as before", x.witness(0), 0);
        due("as before", x.differs(), 0);
        x.plain(0, t);
        due("as before, whatever is told", x.differs(), 0);
        due("holds", x.run(0), 1);
        refused("no state", WRONG_STATE, () -> x.witness(0));
        refused("no state, no element", WRONG_STATE, () -> x.witness(77));
        refused("no state, FETCH", WRONG_STATE, () -> x.witness(NONE));
        refused("no state", WRONG_STATE, x::differs);
    }

    private static void differences() {
        Probe x = new Probe();
        int a = x.word();
        int b = x.word();
        x.truth();
        int f = x.apply(0, a, NONE);
        int same = x.equal(f, a);
        // In one state, element 1 differs if f(a) is a, element 0 if it is not: the lowest for some functions.
        x.plain(0, f);
        x.plain(1, x.choice(same, x.apply(1, b, NONE), b));
        due("fails", x.run(0), 0);
        due("for some functions", x.differs(), 0);
        dueState(x, 1, 0, 0, 0);
        // Functions under which invariants do not hold show nothing.
        x.invariant(same);
        due("fails still", x.run(0), 0);
        due("element 0 no longer", x.differs(), 1);
        // A higher element that differs in a lesser state goes first.
        Probe y = new Probe();
        y.truth();
        int q = y.truth();
        y.plain(0, FALSE);
        y.plain(1, y.not(q));
        due("fails", y.run(0), 0);
        due("in the least state", y.differs(), 1);
        dueState(y, 1, 0, 0);
    }

    private static void nodes() {
        Probe x = new Probe();
        int a = x.word();
        int b = x.word();
        int t = x.truth();
        dueNode(x, b, 3, 1, NONE, NONE);
        dueNode(x, t, 4, 2, NONE, NONE);
        dueNode(x, x.apply(5, b, a), 5, b, a, 5);
        dueNode(x, x.apply(4, b, NONE), 5, b, NONE, 4);
        dueNode(x, x.equal(7, 6), 6, 6, 7, NONE);
        dueNode(x, x.not(8), 7, 8, NONE, NONE);
        dueNode(x, x.both(9, t), 8, t, 9, NONE);
        dueNode(x, x.choice(t, b, a), 9, t, b, a);
        refused("what 4", NO_INDEX, () -> x.node(0, 4));
        refused("what -1", NO_INDEX, () -> x.node(0, -1));
        refused("node 12", NO_INDEX, () -> x.node(12, 0));
        refused("node -1", NO_INDEX, () -> x.node(-1, 0));
    }

    private static void counts() {
        Probe x = pipeline(true);
        dueCounts(x, 13, 4, 2, 0, 0, 0, NONE);
        due("count(-1)", x.count(-1), NONE);
        due("count of the lowest", x.count(Integer.MIN_VALUE), NONE);
        x.run(1);
        dueCounts(x, 13, 4, 2, 0, 6, 1);
        refused("a refused run", WRONG_SORT, () -> x.run(-3));
        dueCounts(x, 13, 4, 2, 0, 6, 1);
        x.invariant(x.not(6));
        dueCounts(x, 14, 4, 2, 1, 6, 1);
        x.kept(0);
        dueCounts(x, 14, 4, 2, 1, 0, 2);
    }

    /** Steps make nodes of their own: none is of the face, however many they are. */
    private static void largeCores() {
        Probe x = new Probe();
        int[] truths = new int[6];
        int[] words = new int[7];
        for (int i = 0; i < 6; i++) {
            truths[i] = x.truth();
        }
        for (int i = 0; i < 7; i++) {
            words[i] = x.word();
        }
        int last = FETCH;
        for (int i = 0; x.count(0) < 298; i++) {
            int a = words[i % 7];
            int b = words[(i * 3 + i / 7 + 1) % 7];
            last = x.choice(x.equal(a, b), x.not(x.both(last, truths[i % 6])), x.both(last, truths[i % 5]));
        }
        for (int i = 0; i < 6; i++) {
            x.next(i, i == 0 ? last : truths[i - 1]);
        }
        for (int i = 0; i < 7; i++) {
            x.next(6 + i, words[(i + 1) % 7]);
            x.plain(6 + i, words[(i + 1) % 7]);
        }
        int before = x.count(0);
        for (int depth = 0; depth <= 8; depth++) {
            due("words go round", x.run(depth), 1);
        }
        dueCounts(x, before, 13, 7, 0, 7, 0);
        x.plain(0, truths[1]);
        due("truths do not", x.run(8), 0);
        dueCounts(x, before, 13, 8, 0, 7, 6);
        due("differs", x.differs(), 0);
        due("the first small one again", x.run(0), 0);
        due("still the same nodes", x.count(0), before);
    }

    public static void main(String[] args) {
        newObject();
        elements();
        applications();
        equalities();
        nots();
        boths();
        choices();
        nexts();
        plains();
        invariants();
        runs();
        sizes();
        deepNodes();
        functions();
        sevenNumbers();
        leastStates();
        kepts();
        witnesses();
        differences();
        nodes();
        counts();
        largeCores();
        System.out.println(wrong == 0 ? "all answers are as due" : wrong + " answers are not as due");
        if (wrong != 0) {
            System.exit(1);
        }
    }
}
