/** The edges of promise 4: functions, arguments and their sorts, each node once, 300 nodes, and which exception. */
final class Promise04ApplyTest extends Checks {
    static void promise4FunctionsGoFromZeroToSeven() {
        Probe x = new Probe();
        int a = x.word();
        for (int f = 0; f <= 7; f++) {
            due("function " + f + " of one", x.apply(f, a, NONE), 4 + 2 * f);
            due("function " + f + " of two", x.apply(f, a, a), 5 + 2 * f);
            dueNode(x, 4 + 2 * f, 5, a, NONE, f);
            dueNode(x, 5 + 2 * f, 5, a, a, f);
        }
    }

    static void promise4OtherFunctionsAreRefused() {
        Probe x = new Probe();
        int a = x.word();
        refusedEach(x, "of one", NO_ARGUMENT, f -> x.apply(f, a, NONE), -1, 8, LOWEST, HIGHEST);
        refusedEach(x, "of two", NO_ARGUMENT, f -> x.apply(f, a, a), -1, 8, LOWEST, HIGHEST);
    }

    static void promise4NoneBehindIsOneArgument() {
        Probe x = new Probe();
        int a = x.word();
        int one = x.apply(2, a, NONE);
        int two = x.apply(2, a, a);
        due("one argument and two are two nodes", one != two, true);
        dueNode(x, one, 5, a, NONE, 2);
        dueNode(x, two, 5, a, a, 2);
    }

    static void promise4NoneAheadIsNoNode() {
        Probe x = new Probe();
        int a = x.word();
        refused(x, "NONE ahead of a word", NO_INDEX, () -> x.apply(0, NONE, a));
        refused(x, "NONE twice", NO_INDEX, () -> x.apply(0, NONE, NONE));
    }

    static void promise4EachApplicationComesOnce() {
        Probe x = new Probe();
        int a = x.word();
        int b = x.word();
        int ab = x.apply(1, a, b);
        int ba = x.apply(1, b, a);
        int one = x.apply(1, a, NONE);
        due("the other way is another", ab != ba, true);
        due("again", x.apply(1, a, b), ab);
        due("the other way again", x.apply(1, b, a), ba);
        due("of one again", x.apply(1, a, NONE), one);
        due("nodes", x.count(0), 8);
    }

    static void promise4EveryFunctionOfEveryArgumentsIsAnother() {
        Probe x = new Probe();
        int[] words = words(x, 6);
        int due = 9;
        for (int f = 0; f <= 7; f++) {
            for (int i = 0; i < 36; i++) {
                due("function " + f, x.apply(f, words[i / 6], words[i % 6]), due);
                due++;
            }
        }
        due("nodes", x.count(0), 297);
        for (int i = 0; i < 36; i++) {
            due("again", x.apply(5, words[i / 6], words[i % 6]), 9 + 5 * 36 + i);
        }
    }

    static void promise4ArgumentsFarApartMakeOthers() {
        for (int place = 1; place <= 2; place++) {
            Probe x = new Probe();
            int a = x.word();
            fill(x, a, 150);
            for (int n = 4; n < 150; n++) {
                due("of node " + n, place == 1 ? x.apply(0, n, a) : x.apply(0, a, n), 146 + n);
            }
        }
    }

    static void promise4ArgumentsAreNodesThatThereAre() {
        Probe x = new Probe();
        int a = x.word();
        int last = x.word();
        due("the last node", x.apply(0, last, last), 5);
        refusedOutside(x, "the first argument", 6, n -> x.apply(0, n, a));
        refusedOutside(x, "the only argument", 6, n -> x.apply(0, n, NONE));
        refusedOutsideButNone(x, "the second argument", 6, n -> x.apply(0, a, n));
    }

    static void promise4EveryWordNodeIsTaken() {
        Probe x = new Probe();
        int count = 0;
        for (int node : wordNodes(x)) {
            int made = x.apply(0, node, NONE);
            dueNode(x, made, 5, node, NONE, 0);
            dueNode(x, x.apply(0, made, node), 5, made, node, 0);
            count++;
        }
        due("kinds of word nodes", count, 4);
    }

    static void promise4EveryTruthNodeIsRefused() {
        Probe x = new Probe();
        int a = x.word();
        int[] truths = truthNodes(x);
        refusedEach(x, "ahead", NO_ARGUMENT, n -> x.apply(0, n, a), truths);
        refusedEach(x, "alone", NO_ARGUMENT, n -> x.apply(0, n, NONE), truths);
        refusedEach(x, "behind", NO_ARGUMENT, n -> x.apply(0, a, n), truths);
    }

    static void promise4NoNodeGoesAheadOfNoFunctionAndNoSort() {
        Probe x = new Probe();
        int a = x.word();
        int t = x.truth();
        refused(x, "no function and no first node", NO_INDEX, () -> x.apply(8, 5, a));
        refused(x, "no function and no second node", NO_INDEX, () -> x.apply(8, a, 5));
        refused(x, "a truth and no second node", NO_INDEX, () -> x.apply(0, t, 5));
        refused(x, "no first node and a truth", NO_INDEX, () -> x.apply(0, 5, t));
    }

    static void promise4The300thNodeIsTaken() {
        Probe x = new Probe();
        int a = x.word();
        fill(x, a, 299);
        due("of one", x.apply(0, a, NONE), 299);
        Probe y = new Probe();
        int b = y.word();
        fill(y, b, 299);
        due("of two", y.apply(0, b, b), 299);
        dueNode(y, 299, 5, b, b, 0);
    }

    static void promise4The301stNodeIsRefused() {
        Probe x = new Probe();
        int a = x.word();
        fill(x, a, 300);
        refused(x, "of one", NO_ROOM, () -> x.apply(0, a, NONE));
        refused(x, "of two", NO_ROOM, () -> x.apply(7, a, a));
        refused(x, "of the last node", NO_ROOM, () -> x.apply(7, 299, NONE));
    }

    static void promise4AFullObjectStillTellsWhatIsThere() {
        Probe x = new Probe();
        int a = x.word();
        int two = x.apply(3, a, a);
        fill(x, a, 300);
        due("of two", x.apply(3, a, a), two);
        due("of one", x.apply(7, a, NONE), two + 1);
        due("the last", x.apply(7, 298, NONE), 299);
        dueCounts(x, 300, 1);
    }

    static void promise4NoRoomIsTheLastToBeThrown() {
        Probe x = new Probe();
        int a = x.word();
        fill(x, a, 300);
        refused(x, "no first node", NO_INDEX, () -> x.apply(0, 300, NONE));
        refused(x, "no second node", NO_INDEX, () -> x.apply(0, a, 300));
        refused(x, "no function", NO_ARGUMENT, () -> x.apply(8, a, NONE));
        refused(x, "a truth", NO_ARGUMENT, () -> x.apply(0, TRUE, NONE));
        refused(x, "a truth behind", NO_ARGUMENT, () -> x.apply(0, a, TRUE));
    }

    public static void main(String[] args) {
        playAll(Promise04ApplyTest.class);
    }
}
