/** The edges of promise 10: elements by their numbers, nodes of their sort without FETCH, and whether one was seen. */
final class Promise10PlainTest extends Checks {
    static void promise10AnElementIsSeenFromItsFirstPlainNodeOn() {
        Probe x = new Probe();
        int a = x.word();
        int b = x.word();
        due("the first", x.plain(0, b), false);
        due("the second", x.plain(0, a), true);
        due("the same again", x.plain(0, a), true);
        due("seen", x.count(2), 1);
        due("another's first", x.plain(1, b), false);
        due("seen", x.count(2), 2);
    }

    static void promise10ANextNodeMakesNoneSeen() {
        Probe x = new Probe();
        int a = x.word();
        x.next(0, a);
        due("seen", x.count(2), 0);
        due("behind a next", x.plain(0, a), false);
        Probe y = new Probe();
        y.plain(0, y.word());
        due("a plain node is no next one", y.next(0, 3), false);
    }

    static void promise10AllSixteenCanBeSeen() {
        Probe x = new Probe();
        int[] words = words(x, 16);
        for (int e = 0; e < 16; e++) {
            due("element " + e, x.plain(e, words[15 - e]), false);
            due("seen", x.count(2), e + 1);
        }
        refusedOutside(x, "of sixteen", 16, e -> x.plain(e, words[0]));
    }

    static void promise10FetchIsRefused() {
        Probe x = new Probe();
        x.truth();
        refused(x, "FETCH", NO_ARGUMENT, () -> x.plain(0, FETCH));
        due("the first that is taken", x.plain(0, TRUE), false);
        refused(x, "FETCH again", NO_ARGUMENT, () -> x.plain(0, FETCH));
    }

    static void promise10FetchInATruthIsRefusedWhereverItIs() {
        Probe x = new Probe();
        int t = x.truth();
        int[] having = {
            x.not(FETCH), x.both(FETCH, t), x.choice(FETCH, t, TRUE), x.choice(t, FETCH, TRUE), x.choice(t, TRUE, FETCH)
        };
        refusedEach(x, "FETCH is in it", NO_ARGUMENT, n -> x.plain(0, n), having);
    }

    static void promise10FetchInAWordIsRefusedWhereverItIs() {
        Probe x = new Probe();
        int a = x.word();
        int b = x.word();
        int t = x.truth();
        int chosen = x.choice(FETCH, a, b);
        int[] having = {
            chosen, x.apply(0, chosen, NONE), x.apply(0, chosen, a), x.apply(0, a, chosen), x.choice(t, chosen, a),
            x.choice(t, a, chosen), x.choice(x.both(t, FETCH), a, b)
        };
        refusedEach(x, "FETCH is in it", NO_ARGUMENT, n -> x.plain(0, n), having);
        int[] truths = {x.equal(a, chosen), x.equal(chosen, x.apply(1, a, b)), x.not(x.equal(chosen, b))};
        refusedEach(x, "FETCH is in it", NO_ARGUMENT, n -> x.plain(2, n), truths);
    }

    static void promise10FetchIsRefusedFarWithin() {
        Probe x = new Probe();
        int a = x.word();
        int within = fill(x, x.choice(FETCH, a, x.apply(0, a, NONE)), 299);
        refused(x, "within the 299th node", NO_ARGUMENT, () -> x.plain(0, within));
        due("a word beside it", x.plain(0, 4), false);
    }

    static void promise10FetchThatNothingWasMadeOfIsNotInIt() {
        Probe x = new Probe();
        int a = x.word();
        int t = x.truth();
        x.not(FETCH);
        due("a choice of one twice", x.plain(0, x.choice(FETCH, a, a)), false);
        due("both with FALSE", x.plain(1, x.both(FETCH, FALSE)), false);
        due("a choice of TRUE", x.plain(1, x.choice(TRUE, t, FETCH)), true);
    }

    static void promise10ARefusedOneIsNotSeen() {
        Probe x = new Probe();
        int a = x.word();
        int t = x.truth();
        refused(x, "a truth for a word", NO_ARGUMENT, () -> x.plain(0, t));
        refused(x, "no node", NO_INDEX, () -> x.plain(0, 5));
        due("seen", x.count(2), 0);
        due("the first that is taken", x.plain(0, a), false);
        int f = x.choice(FETCH, a, x.apply(0, a, NONE));
        refused(x, "FETCH is in it", NO_ARGUMENT, () -> x.plain(0, f));
        due("the one that was taken stays", x.run(0), HOLDS);
    }

    static void promise10ThereAreElementsFromZeroToTheLast() {
        Probe x = new Probe();
        int a = x.word();
        int t = x.truth();
        refusedOutside(x, "plain", 2, e -> x.plain(e, a));
        due("the first element", x.plain(0, a), false);
        due("the last element", x.plain(1, t), false);
    }

    static void promise10TheNodeIsOneThatThereIs() {
        Probe x = new Probe();
        int last = x.not(x.truth());
        refusedOutside(x, "plain", 5, n -> x.plain(0, n));
        due("the last node", x.plain(0, last), false);
    }

    static void promise10AWordBecomesAWord() {
        Probe x = new Probe();
        x.word();
        int told = 0;
        for (int node : wordNodes(x)) {
            due("node " + node, x.plain(0, node), told > 0);
            told++;
        }
        Probe y = new Probe();
        y.word();
        refusedEach(y, "a truth", NO_ARGUMENT, n -> y.plain(0, n), truthNodes(y));
    }

    static void promise10ATruthBecomesATruth() {
        Probe x = new Probe();
        int t = x.truth();
        int a = x.word();
        int equal = x.equal(a, x.apply(0, a, NONE));
        int[] nodes = {FALSE, TRUE, t, equal, x.not(t), x.both(t, equal), x.choice(t, equal, FALSE)};
        for (int i = 0; i < nodes.length; i++) {
            due("node " + nodes[i], x.plain(0, nodes[i]), i > 0);
        }
        Probe y = new Probe();
        y.truth();
        refusedEach(y, "a word", NO_ARGUMENT, n -> y.plain(0, n), wordNodes(y));
    }

    static void promise10NoElementGoesAheadOfNoSortAndFetch() {
        Probe x = new Probe();
        int a = x.word();
        x.truth();
        refused(x, "no element and FETCH", NO_INDEX, () -> x.plain(2, FETCH));
        refused(x, "no element and a word", NO_INDEX, () -> x.plain(NONE, a));
        refused(x, "neither", NO_INDEX, () -> x.plain(2, 5));
    }

    static void promise10TheLatestOneCounts() {
        Probe x = new Probe();
        int t = x.truth();
        x.plain(0, x.not(t));
        due("not", x.run(0), FAILS);
        x.plain(0, t);
        due("itself", x.run(0), HOLDS);
    }

    static void promise10ThePlainStepTakesAllElementsAsTheyWere() {
        Probe x = new Probe();
        int a = x.word();
        int b = x.word();
        x.next(0, b);
        x.next(1, a);
        x.plain(0, b);
        x.plain(1, a);
        due("two are swapped", x.run(0), HOLDS);
        dueDeep(x, 2, 0);
    }

    public static void main(String[] args) {
        playAll(Promise10PlainTest.class);
    }
}
