/** The edges of promise 5: either way one, a node with itself, sorts, 300 nodes, and which exception. */
final class Promise05EqualTest extends Checks {
    static void promise5EitherWayIsOne() {
        Probe x = new Probe();
        int a = x.word();
        int b = x.word();
        int c = x.word();
        due("the higher node ahead", x.equal(b, a), 6);
        due("the lower node ahead", x.equal(a, b), 6);
        due("another", x.equal(b, c), 7);
        due("that either way", x.equal(c, b), 7);
        dueNode(x, 6, 6, a, b, NONE);
        dueNode(x, 7, 6, b, c, NONE);
        dueCounts(x, 8, 3);
    }

    static void promise5EveryPairIsAnother() {
        Probe x = new Probe();
        int[] words = words(x, 16);
        int due = 19;
        for (int i = 0; i < 16; i++) {
            for (int j = 0; j < i; j++) {
                due("a pair", x.equal(words[i], words[j]), due);
                due("either way", x.equal(words[j], words[i]), due);
                due++;
            }
        }
        due("nodes", x.count(0), 19 + 120);
    }

    static void promise5NodesFarApartMakeOthers() {
        Probe x = new Probe();
        int a = x.word();
        fill(x, a, 150);
        for (int n = 4; n < 150; n++) {
            due("with node " + n, x.equal(n, a), 146 + n);
        }
    }

    static void promise5ANodeWithItselfIsTrue() {
        Probe x = new Probe();
        for (int node : wordNodes(x)) {
            due("node " + node + " with itself", x.equal(node, node), TRUE);
        }
        dueCounts(x, 8, 2);
    }

    static void promise5EveryWordNodeIsTaken() {
        Probe x = new Probe();
        int a = x.word();
        int last = 10;
        for (int node : wordNodes(x)) {
            due("with node " + node, x.equal(a, node), last - 1);
            last++;
        }
        due("nodes", x.count(0), 13);
    }

    static void promise5EveryTruthNodeIsRefused() {
        Probe x = new Probe();
        int a = x.word();
        int[] truths = truthNodes(x);
        refusedEach(x, "ahead", NO_ARGUMENT, n -> x.equal(n, a), truths);
        refusedEach(x, "behind", NO_ARGUMENT, n -> x.equal(a, n), truths);
        refusedEach(x, "with itself", NO_ARGUMENT, n -> x.equal(n, n), truths);
    }

    static void promise5PartsAreNodesThatThereAre() {
        Probe x = new Probe();
        int a = x.word();
        int last = x.word();
        refusedOutside(x, "ahead", 5, n -> x.equal(n, a));
        refusedOutside(x, "behind", 5, n -> x.equal(a, n));
        refusedOutside(x, "with itself", 5, n -> x.equal(n, n));
        due("the last node", x.equal(a, last), 5);
    }

    static void promise5NoNodeGoesAheadOfNoSort() {
        Probe x = new Probe();
        int t = x.truth();
        refused(x, "a truth and no node", NO_INDEX, () -> x.equal(t, 4));
        refused(x, "no node and a truth", NO_INDEX, () -> x.equal(4, t));
    }

    static void promise5The300thNodeIsTaken() {
        Probe x = new Probe();
        int a = x.word();
        int last = fill(x, a, 299);
        due("the 300th", x.equal(last, a), 299);
        dueNode(x, 299, 6, a, last, NONE);
    }

    static void promise5The301stNodeIsRefused() {
        Probe x = new Probe();
        int a = x.word();
        int last = fill(x, a, 300);
        refused(x, "the 301st", NO_ROOM, () -> x.equal(a, last));
        refused(x, "the other way", NO_ROOM, () -> x.equal(last, a));
    }

    static void promise5AFullObjectStillTellsWhatIsThere() {
        Probe x = new Probe();
        int a = x.word();
        int b = x.word();
        int there = x.equal(a, b);
        fill(x, a, 300);
        due("one that is there", x.equal(a, b), there);
        due("the other way", x.equal(b, a), there);
        due("a node with itself", x.equal(299, 299), TRUE);
    }

    static void promise5NoRoomIsTheLastToBeThrown() {
        Probe x = new Probe();
        int a = x.word();
        fill(x, a, 300);
        refused(x, "no node", NO_INDEX, () -> x.equal(a, 300));
        refused(x, "a truth", NO_ARGUMENT, () -> x.equal(a, FETCH));
    }

    public static void main(String[] args) {
        playAll(Promise05EqualTest.class);
    }
}
