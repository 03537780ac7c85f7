/** The edges of promise 8: constants, one node twice, both sorts, 300 nodes, and which exception. */
final class Promise08ChoiceTest extends Checks {
    static void promise8AChoiceOfTrueIsTheFirst() {
        Probe x = new Probe();
        int a = x.word();
        int b = x.word();
        due("of words", x.choice(TRUE, a, b), a);
        due("of truths", x.choice(TRUE, FALSE, FETCH), FALSE);
        due("of constants", x.choice(TRUE, TRUE, FALSE), TRUE);
        due("nodes", x.count(0), 5);
    }

    static void promise8AChoiceOfFalseIsTheSecond() {
        Probe x = new Probe();
        int a = x.word();
        int b = x.word();
        due("of words", x.choice(FALSE, a, b), b);
        due("of truths", x.choice(FALSE, FALSE, FETCH), FETCH);
        due("of constants", x.choice(FALSE, TRUE, FALSE), FALSE);
        due("nodes", x.count(0), 5);
    }

    static void promise8AChoiceOfOneNodeTwiceIsThat() {
        Probe x = new Probe();
        int a = x.word();
        int t = x.truth();
        due("of a word", x.choice(t, a, a), a);
        due("of FETCH", x.choice(t, FETCH, FETCH), FETCH);
        due("of itself", x.choice(t, t, t), t);
        due("of TRUE twice", x.choice(FETCH, TRUE, TRUE), TRUE);
        due("of FALSE, twice", x.choice(FALSE, a, a), a);
        due("nodes", x.count(0), 5);
    }

    static void promise8NothingElseIsPlainer() {
        Probe x = new Probe();
        int c = x.truth();
        int d = x.truth();
        int n = x.not(c);
        due("TRUE, else FALSE", x.choice(c, TRUE, FALSE), 6);
        due("FALSE, else TRUE", x.choice(c, FALSE, TRUE), 7);
        due("itself, else another", x.choice(c, c, d), 8);
        due("another, else itself", x.choice(c, d, c), 9);
        due("of a not", x.choice(n, d, FETCH), 10);
        due("of a not the other way", x.choice(c, FETCH, d), 11);
        dueNode(x, 6, 9, c, TRUE, FALSE);
        dueNode(x, 7, 9, c, FALSE, TRUE);
        dueNode(x, 8, 9, c, c, d);
        dueNode(x, 10, 9, n, d, FETCH);
    }

    static void promise8EachChoiceComesOnce() {
        Probe x = new Probe();
        int c = x.truth();
        int a = x.word();
        int b = x.word();
        due("a choice", x.choice(c, a, b), 6);
        due("the other way is another", x.choice(c, b, a), 7);
        due("of FETCH is another", x.choice(FETCH, a, b), 8);
        due("again", x.choice(c, a, b), 6);
        dueNode(x, 6, 9, c, a, b);
        dueNode(x, 7, 9, c, b, a);
        dueNode(x, 8, 9, FETCH, a, b);
        due("nodes", x.count(0), 9);
    }

    static void promise8EveryChoiceOfOthersIsAnother() {
        Probe x = new Probe();
        int[] words = words(x, 8);
        int[] truths = truths(x, 5);
        int due = 16;
        for (int c = 0; c < 5; c++) {
            for (int i = 0; i < 64; i++) {
                if (i / 8 != i % 8) {
                    due("a choice", x.choice(truths[c], words[i / 8], words[i % 8]), due);
                    due++;
                }
            }
        }
        due("nodes", x.count(0), 16 + 5 * 56);
        due("the first again", x.choice(truths[0], words[0], words[1]), 16);
        due("the last again", x.choice(truths[4], words[7], words[6]), 295);
    }

    static void promise8NodesFarApartMakeOthers() {
        for (int place = 1; place <= 2; place++) {
            Probe x = new Probe();
            int a = x.word();
            fill(x, a, 150);
            for (int n = 4; n < 150; n++) {
                due("of node " + n, place == 1 ? x.choice(FETCH, n, a) : x.choice(FETCH, a, n), 146 + n);
            }
        }
    }

    static void promise8EveryTruthNodeIsTakenToChooseBy() {
        Probe x = new Probe();
        int a = x.word();
        int b = x.word();
        for (int node : truthNodes(x)) {
            int made = x.choice(node, a, b);
            if (node == FALSE || node == TRUE) {
                due("by " + node, made, node == FALSE ? b : a);
            } else {
                dueNode(x, made, 9, node, a, b);
            }
        }
    }

    static void promise8EveryWordNodeIsRefusedToChooseBy() {
        Probe x = new Probe();
        int[] words = wordNodes(x);
        refusedEach(x, "of words", NO_ARGUMENT, n -> x.choice(n, words[0], words[1]), words);
        refusedEach(x, "of truths", NO_ARGUMENT, n -> x.choice(n, TRUE, FETCH), words);
        refusedEach(x, "of one twice", NO_ARGUMENT, n -> x.choice(n, TRUE, TRUE), words);
    }

    static void promise8AWordAndATruthAreRefused() {
        Probe x = new Probe();
        int a = x.word();
        int t = x.truth();
        int[] words = wordNodes(x);
        refusedEach(x, "a word ahead", NO_ARGUMENT, n -> x.choice(t, n, t), words);
        refusedEach(x, "a word behind", NO_ARGUMENT, n -> x.choice(t, t, n), words);
        Probe y = new Probe();
        int b = y.word();
        int[] truths = truthNodes(y);
        refusedEach(y, "a truth ahead", NO_ARGUMENT, n -> y.choice(FETCH, n, b), truths);
        refusedEach(y, "a truth behind", NO_ARGUMENT, n -> y.choice(FETCH, b, n), truths);
        refused(x, "of TRUE", NO_ARGUMENT, () -> x.choice(TRUE, a, t));
        refused(x, "of FALSE", NO_ARGUMENT, () -> x.choice(FALSE, a, t));
    }

    static void promise8AChoiceIsOfItsPartsSort() {
        Probe x = new Probe();
        int t = x.truth();
        int a = x.word();
        int words = x.choice(t, a, x.apply(0, a, NONE));
        int truths = x.choice(t, FETCH, FALSE);
        refused(x, "not of words", NO_ARGUMENT, () -> x.not(words));
        refused(x, "apply to truths", NO_ARGUMENT, () -> x.apply(0, truths, NONE));
        due("equal of words", x.equal(words, a), 8);
        due("not of truths", x.not(truths), 9);
        due("a choice of choices of words", x.choice(truths, words, a), 10);
        refused(x, "which is no truth", NO_ARGUMENT, () -> x.both(10, t));
        due("a choice of choices of truths", x.choice(truths, truths, t), 11);
        refused(x, "which is no word", NO_ARGUMENT, () -> x.equal(11, a));
    }

    static void promise8PartsAreNodesThatThereAre() {
        Probe x = new Probe();
        int a = x.word();
        int t = x.truth();
        refusedOutside(x, "to choose by", 5, n -> x.choice(n, a, a));
        refusedOutside(x, "the first", 5, n -> x.choice(t, n, a));
        refusedOutside(x, "the second", 5, n -> x.choice(t, a, n));
        refusedOutside(x, "the first, of FALSE", 5, n -> x.choice(FALSE, n, a));
        refusedOutside(x, "the second, of TRUE", 5, n -> x.choice(TRUE, a, n));
        refusedOutside(x, "one twice", 5, n -> x.choice(t, n, n));
        due("the last node", x.choice(t, t, FETCH), 5);
    }

    static void promise8NoNodeGoesAheadOfNoSort() {
        Probe x = new Probe();
        int a = x.word();
        int t = x.truth();
        refused(x, "a word to choose by, and no first node", NO_INDEX, () -> x.choice(a, 5, t));
        refused(x, "a word to choose by, and no second node", NO_INDEX, () -> x.choice(a, t, 5));
        refused(x, "nothing to choose by, and two sorts", NO_INDEX, () -> x.choice(5, a, t));
    }

    static void promise8The300thNodeIsTaken() {
        Probe x = new Probe();
        int a = x.word();
        int last = fill(x, a, 299);
        due("of words", x.choice(FETCH, a, last), 299);
        dueNode(x, 299, 9, FETCH, a, last);
        Probe y = new Probe();
        fill(y, y.word(), 299);
        due("of truths", y.choice(FETCH, FALSE, TRUE), 299);
    }

    static void promise8The301stNodeIsRefused() {
        Probe x = new Probe();
        int a = x.word();
        int last = fill(x, a, 300);
        refused(x, "of words", NO_ROOM, () -> x.choice(FETCH, a, last));
        refused(x, "of truths", NO_ROOM, () -> x.choice(FETCH, TRUE, FALSE));
    }

    static void promise8AFullObjectStillTellsWhatIsThere() {
        Probe x = new Probe();
        int a = x.word();
        int b = x.word();
        int there = x.choice(FETCH, a, b);
        fill(x, a, 300);
        due("one that is there", x.choice(FETCH, a, b), there);
        due("of TRUE", x.choice(TRUE, 299, a), 299);
        due("of FALSE", x.choice(FALSE, 299, a), a);
        due("of one twice", x.choice(FETCH, 299, 299), 299);
    }

    static void promise8NoRoomIsTheLastToBeThrown() {
        Probe x = new Probe();
        int a = x.word();
        fill(x, a, 300);
        refused(x, "no node", NO_INDEX, () -> x.choice(FETCH, a, 300));
        refused(x, "two sorts", NO_ARGUMENT, () -> x.choice(FETCH, a, TRUE));
        refused(x, "a word to choose by", NO_ARGUMENT, () -> x.choice(a, a, 299));
    }

    public static void main(String[] args) {
        playAll(Promise08ChoiceTest.class);
    }
}
