/** The edges of promise 9: elements by their numbers, nodes of the element's sort, and whether one was told before. */
final class Promise09NextTest extends Checks {
    static void promise9TheFirstOneToldHadNone() {
        Probe x = new Probe();
        int a = x.word();
        int b = x.word();
        due("the first", x.next(0, b), false);
        due("another's first", x.next(1, b), false);
        due("the second", x.next(0, a), true);
        due("the third", x.next(0, b), true);
        dueCounts(x, 5, 2, 0, 0);
    }

    static void promise9ItselfIsToldLikeAnother() {
        Probe x = new Probe();
        int a = x.word();
        due("itself", x.next(0, a), false);
        due("itself again", x.next(0, a), true);
    }

    static void promise9ConstantsAndFetchAreTaken() {
        Probe x = new Probe();
        x.truth();
        due("FALSE", x.next(0, FALSE), false);
        due("TRUE", x.next(0, TRUE), true);
        due("FETCH", x.next(0, FETCH), true);
    }

    static void promise9ARefusedOneIsNotTold() {
        Probe x = new Probe();
        int a = x.word();
        int t = x.truth();
        refused(x, "a truth for a word", NO_ARGUMENT, () -> x.next(0, t));
        refused(x, "no node", NO_INDEX, () -> x.next(0, 5));
        due("the first that is taken", x.next(0, x.apply(0, a, NONE)), false);
        refused(x, "a truth for a word", NO_ARGUMENT, () -> x.next(0, t));
        x.plain(0, 5);
        due("the one that was taken stays", x.run(0), HOLDS);
    }

    static void promise9ThereAreElementsFromZeroToTheLast() {
        Probe x = new Probe();
        int a = x.word();
        int t = x.truth();
        refusedOutside(x, "next", 2, e -> x.next(e, a));
        due("the first element", x.next(0, a), false);
        due("the last element", x.next(1, t), false);
        Probe y = new Probe();
        int last = words(y, 16)[15];
        due("the sixteenth element", y.next(15, last), false);
        refusedOutside(y, "of sixteen", 16, e -> y.next(e, last));
    }

    /** An element's number is not its node's. */
    static void promise9ElementsAreTakenByTheirNumbersAmongElements() {
        Probe x = new Probe();
        int a = x.word();
        refused(x, "the node's number", NO_INDEX, () -> x.next(a, a));
        int t = x.truth();
        x.apply(0, a, NONE);
        int b = x.word();
        due("behind other nodes", x.next(2, b), false);
        refused(x, "a truth for element 2", NO_ARGUMENT, () -> x.next(2, t));
    }

    static void promise9TheNodeIsOneThatThereIs() {
        Probe x = new Probe();
        int t = x.truth();
        int last = x.not(t);
        refusedOutside(x, "next", 5, n -> x.next(0, n));
        due("the last node", x.next(0, last), false);
        Probe y = new Probe();
        int end = fill(y, y.word(), 300);
        due("node 299", y.next(0, end), false);
        refused(y, "node 300", NO_INDEX, () -> y.next(0, 300));
    }

    static void promise9AWordBecomesAWord() {
        Probe x = new Probe();
        x.word();
        int told = 0;
        for (int node : wordNodes(x)) {
            due("node " + node, x.next(0, node), told > 0);
            told++;
        }
        Probe y = new Probe();
        y.word();
        refusedEach(y, "a truth", NO_ARGUMENT, n -> y.next(0, n), truthNodes(y));
    }

    static void promise9ATruthBecomesATruth() {
        Probe x = new Probe();
        x.truth();
        int told = 0;
        for (int node : truthNodes(x)) {
            due("node " + node, x.next(0, node), told > 0);
            told++;
        }
        Probe y = new Probe();
        y.truth();
        refusedEach(y, "a word", NO_ARGUMENT, n -> y.next(0, n), wordNodes(y));
    }

    static void promise9NoElementGoesAheadOfNoSort() {
        Probe x = new Probe();
        int a = x.word();
        int t = x.truth();
        refused(x, "no element and a truth", NO_INDEX, () -> x.next(2, t));
        refused(x, "no element and a word", NO_INDEX, () -> x.next(NONE, a));
        refused(x, "neither", NO_INDEX, () -> x.next(2, 5));
    }

    static void promise9AnElementWithoutOneStaysAsItIs() {
        Probe x = new Probe();
        int a = x.word();
        int t = x.truth();
        x.plain(0, a);
        x.plain(1, t);
        for (int depth = 0; depth <= 8; depth++) {
            due("run(" + depth + ")", x.run(depth), HOLDS);
            dueDeep(x, 1, 1);
        }
    }

    static void promise9TheLatestOneCounts() {
        Probe x = new Probe();
        int a = x.word();
        int f = x.apply(0, a, NONE);
        x.plain(0, f);
        x.next(0, f);
        due("f", x.run(0), HOLDS);
        x.next(0, a);
        due("itself again", x.run(0), FAILS);
    }

    static void promise9AStepTakesAllElementsAsTheyWere() {
        Probe x = new Probe();
        int a = x.word();
        int b = x.word();
        x.next(0, b);
        x.next(1, a);
        x.plain(0, b);
        x.plain(1, a);
        due("two are swapped", x.run(0), HOLDS);
        x.plain(1, b);
        due("the second does not take what came of the first", x.run(0), FAILS);
        due("differs", x.differs(), 1);
    }

    public static void main(String[] args) {
        playAll(Promise09NextTest.class);
    }
}
