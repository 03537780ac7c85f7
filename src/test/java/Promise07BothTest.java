/** The edges of promise 7: constants, one node twice, either way one, sorts, 300 nodes, and which exception. */
final class Promise07BothTest extends Checks {
    static void promise7BothWithFalseIsFalse() {
        Probe x = new Probe();
        int t = x.truth();
        due("ahead", x.both(FALSE, t), FALSE);
        due("behind", x.both(t, FALSE), FALSE);
        due("with FETCH", x.both(FALSE, FETCH), FALSE);
        due("with TRUE", x.both(TRUE, FALSE), FALSE);
        due("ahead of TRUE", x.both(FALSE, TRUE), FALSE);
        due("twice", x.both(FALSE, FALSE), FALSE);
        due("nodes", x.count(0), 4);
    }

    static void promise7BothWithTrueIsTheOther() {
        Probe x = new Probe();
        int t = x.truth();
        due("ahead", x.both(TRUE, t), t);
        due("behind", x.both(t, TRUE), t);
        due("with FETCH", x.both(TRUE, FETCH), FETCH);
        due("twice", x.both(TRUE, TRUE), TRUE);
        due("nodes", x.count(0), 4);
    }

    static void promise7BothOfOneNodeTwiceIsThat() {
        Probe x = new Probe();
        int t = x.truth();
        int n = x.not(t);
        due("an element", x.both(t, t), t);
        due("a not", x.both(n, n), n);
        due("FETCH", x.both(FETCH, FETCH), FETCH);
        due("nodes", x.count(0), 5);
    }

    static void promise7NothingElseIsPlainer() {
        Probe x = new Probe();
        int t = x.truth();
        int n = x.not(t);
        due("a node and its not", x.both(t, n), 5);
        due("a node and a both of it", x.both(t, 5), 6);
        dueNode(x, 6, 8, t, 5, NONE);
    }

    static void promise7EitherWayIsOne() {
        Probe x = new Probe();
        int s = x.truth();
        int t = x.truth();
        due("the higher node ahead", x.both(t, s), 5);
        due("the lower node ahead", x.both(s, t), 5);
        due("with FETCH", x.both(t, FETCH), 6);
        due("FETCH ahead", x.both(FETCH, t), 6);
        dueNode(x, 5, 8, s, t, NONE);
        dueNode(x, 6, 8, FETCH, t, NONE);
        due("nodes", x.count(0), 7);
    }

    static void promise7EveryPairIsAnother() {
        Probe x = new Probe();
        int[] truths = truths(x, 16);
        int due = 19;
        for (int i = 0; i < 16; i++) {
            for (int j = 0; j < i; j++) {
                due("a pair", x.both(truths[i], truths[j]), due);
                due("either way", x.both(truths[j], truths[i]), due);
                due++;
            }
        }
        due("nodes", x.count(0), 19 + 120);
    }

    static void promise7NodesFarApartMakeOthers() {
        Probe x = new Probe();
        int t = x.truth();
        int last = FETCH;
        for (int n = 4; n < 150; n++) {
            last = x.choice(last, t, FALSE);
        }
        due("the last node", last, 149);
        for (int n = 4; n < 150; n++) {
            due("with node " + n, x.both(n, t), 146 + n);
        }
    }

    static void promise7EveryTruthNodeIsTaken() {
        Probe x = new Probe();
        int s = x.truth();
        for (int node : truthNodes(x)) {
            int made = x.both(s, node);
            due("either way with " + node, x.both(node, s), made);
            if (node == FALSE || node == TRUE) {
                due("with " + node, made, node == FALSE ? FALSE : s);
            } else {
                dueNode(x, made, 8, Math.min(s, node), Math.max(s, node), NONE);
            }
        }
    }

    static void promise7EveryWordNodeIsRefused() {
        Probe x = new Probe();
        int t = x.truth();
        int[] words = wordNodes(x);
        refusedEach(x, "ahead", NO_ARGUMENT, n -> x.both(n, t), words);
        refusedEach(x, "behind", NO_ARGUMENT, n -> x.both(t, n), words);
        refusedEach(x, "twice", NO_ARGUMENT, n -> x.both(n, n), words);
        refusedEach(x, "behind FALSE", NO_ARGUMENT, n -> x.both(FALSE, n), words);
        refusedEach(x, "ahead of TRUE", NO_ARGUMENT, n -> x.both(n, TRUE), words);
    }

    static void promise7PartsAreNodesThatThereAre() {
        Probe x = new Probe();
        int s = x.truth();
        int last = x.truth();
        refusedOutside(x, "ahead", 5, n -> x.both(n, s));
        refusedOutside(x, "behind", 5, n -> x.both(s, n));
        refusedOutside(x, "behind FALSE", 5, n -> x.both(FALSE, n));
        refusedOutside(x, "twice", 5, n -> x.both(n, n));
        due("the last node", x.both(s, last), 5);
    }

    static void promise7NoNodeGoesAheadOfNoSort() {
        Probe x = new Probe();
        int a = x.word();
        refused(x, "a word and no node", NO_INDEX, () -> x.both(a, 4));
        refused(x, "no node and a word", NO_INDEX, () -> x.both(4, a));
    }

    static void promise7The300thNodeIsTaken() {
        Probe x = new Probe();
        int t = x.truth();
        fill(x, x.word(), 299);
        due("the 300th", x.both(t, FETCH), 299);
        dueNode(x, 299, 8, FETCH, t, NONE);
    }

    static void promise7The301stNodeIsRefused() {
        Probe x = new Probe();
        int t = x.truth();
        fill(x, x.word(), 300);
        refused(x, "the 301st", NO_ROOM, () -> x.both(t, FETCH));
        refused(x, "the other way", NO_ROOM, () -> x.both(FETCH, t));
    }

    static void promise7AFullObjectStillTellsWhatIsThere() {
        Probe x = new Probe();
        int s = x.truth();
        int t = x.truth();
        int there = x.both(s, t);
        fill(x, x.word(), 300);
        due("one that is there", x.both(s, t), there);
        due("the other way", x.both(t, s), there);
        due("with TRUE", x.both(t, TRUE), t);
        due("with FALSE", x.both(FALSE, t), FALSE);
        due("twice", x.both(there, there), there);
    }

    static void promise7NoRoomIsTheLastToBeThrown() {
        Probe x = new Probe();
        int a = x.word();
        fill(x, a, 300);
        refused(x, "no node", NO_INDEX, () -> x.both(FETCH, 300));
        refused(x, "a word", NO_ARGUMENT, () -> x.both(FETCH, a));
    }

    public static void main(String[] args) {
        playAll(Promise07BothTest.class);
    }
}
