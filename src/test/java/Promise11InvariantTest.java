/** The edges of promise 11: eight invariants, truth nodes without FETCH, and which exception. */
final class Promise11InvariantTest extends Checks {
    static void promise11InvariantsAreNumberedFromZeroToSeven() {
        Probe x = new Probe();
        int t = x.truth();
        for (int i = 0; i < 8; i++) {
            due("invariant", x.invariant(i % 2 == 0 ? t : TRUE), i);
            due("invariants", x.count(3), i + 1);
        }
    }

    static void promise11TheNinthIsRefused() {
        Probe x = new Probe();
        int t = x.truth();
        for (int i = 0; i < 8; i++) {
            x.invariant(t);
        }
        refused(x, "the ninth", NO_STATE, () -> x.invariant(t));
        refused(x, "TRUE as the ninth", NO_STATE, () -> x.invariant(TRUE));
        refused(x, "kept(8)", NO_INDEX, () -> x.kept(8));
        due("invariants", x.count(3), 8);
    }

    static void promise11OneNodeTwiceAreTwo() {
        Probe x = new Probe();
        int t = x.truth();
        due("the first", x.invariant(t), 0);
        due("the same again", x.invariant(t), 1);
        due("kept(1)", x.kept(1), HOLDS);
    }

    static void promise11ARefusedOneHasNoNumber() {
        Probe x = new Probe();
        int t = x.truth();
        int a = x.word();
        refused(x, "a word", NO_ARGUMENT, () -> x.invariant(a));
        refused(x, "FETCH", NO_ARGUMENT, () -> x.invariant(FETCH));
        due("the first that is taken", x.invariant(t), 0);
        refused(x, "no node", NO_INDEX, () -> x.invariant(5));
        due("the second", x.invariant(t), 1);
    }

    static void promise11FetchIsRefused() {
        Probe x = new Probe();
        refused(x, "FETCH", NO_ARGUMENT, () -> x.invariant(FETCH));
    }

    static void promise11FetchInItIsRefusedWhereverItIs() {
        Probe x = new Probe();
        int t = x.truth();
        int a = x.word();
        int b = x.word();
        int chosen = x.choice(FETCH, a, b);
        int[] having = {
            x.not(FETCH), x.both(FETCH, t), x.choice(FETCH, t, TRUE), x.choice(t, FETCH, TRUE),
            x.choice(t, TRUE, FETCH), x.equal(a, chosen), x.equal(chosen, x.apply(0, a, NONE)),
            x.equal(a, x.apply(0, chosen, b)), x.equal(a, x.apply(0, b, chosen)), x.not(x.equal(b, chosen))
        };
        refusedEach(x, "FETCH is in it", NO_ARGUMENT, x::invariant, having);
    }

    static void promise11FetchThatNothingWasMadeOfIsNotInIt() {
        Probe x = new Probe();
        int t = x.truth();
        due("both with FALSE", x.invariant(x.both(FETCH, FALSE)), 0);
        due("a choice of one twice", x.invariant(x.choice(FETCH, t, t)), 1);
    }

    static void promise11EveryTruthNodeWithoutFetchIsTaken() {
        Probe x = new Probe();
        int t = x.truth();
        int a = x.word();
        int equal = x.equal(a, x.apply(0, a, NONE));
        int[] nodes = {FALSE, TRUE, t, equal, x.not(t), x.both(t, equal), x.choice(t, equal, FALSE)};
        for (int i = 0; i < nodes.length; i++) {
            due("node " + nodes[i], x.invariant(nodes[i]), i);
        }
    }

    static void promise11EveryWordNodeIsRefused() {
        Probe x = new Probe();
        refusedEach(x, "a word", NO_ARGUMENT, x::invariant, wordNodes(x));
    }

    static void promise11ItIsANodeThatThereIs() {
        Probe x = new Probe();
        int last = x.truth();
        refusedOutside(x, "invariant", 4, x::invariant);
        due("the last node", x.invariant(last), 0);
    }

    static void promise11EightAreTheLastToBeThrown() {
        Probe x = new Probe();
        int a = x.word();
        int n = x.not(FETCH);
        for (int i = 0; i < 8; i++) {
            x.invariant(TRUE);
        }
        refusedOutside(x, "no node", 5, x::invariant);
        refused(x, "a word", NO_ARGUMENT, () -> x.invariant(a));
        refused(x, "FETCH", NO_ARGUMENT, () -> x.invariant(FETCH));
        refused(x, "FETCH in it", NO_ARGUMENT, () -> x.invariant(n));
        refused(x, "a truth", NO_STATE, () -> x.invariant(FALSE));
    }

    public static void main(String[] args) {
        playAll(Promise11InvariantTest.class);
    }
}
