/** The edges of promise 6: constants, a not's not, sorts, 300 nodes, and which exception. */
final class Promise06NotTest extends Checks {
    static void promise6NotOfTrueIsFalse() {
        Probe x = new Probe();
        due("not(TRUE)", x.not(TRUE), FALSE);
        due("nodes", x.count(0), 3);
    }

    static void promise6NotOfFalseIsTrue() {
        Probe x = new Probe();
        due("not(FALSE)", x.not(FALSE), TRUE);
        due("nodes", x.count(0), 3);
    }

    static void promise6NotOfANotIsWhatThatIsOf() {
        Probe x = new Probe();
        int t = x.truth();
        int n = x.not(t);
        due("not not", x.not(n), t);
        due("not not not", x.not(x.not(n)), n);
        int f = x.not(FETCH);
        due("not not FETCH", x.not(f), FETCH);
        due("nodes", x.count(0), 6);
    }

    static void promise6FetchIsNoConstant() {
        Probe x = new Probe();
        due("not(FETCH)", x.not(FETCH), 3);
        dueNode(x, 3, 7, FETCH, NONE, NONE);
    }

    static void promise6EachNotComesOnce() {
        Probe x = new Probe();
        int s = x.truth();
        int t = x.truth();
        due("not", x.not(t), 5);
        due("again", x.not(t), 5);
        due("of another", x.not(s), 6);
        due("nodes", x.count(0), 7);
    }

    /** A not has the parts that an element of that number has: they are two nodes all the same. */
    static void promise6NotsOfAllElementsAreOthers() {
        Probe x = new Probe();
        int[] truths = truths(x, 16);
        for (int i = 0; i < 16; i++) {
            due("not of " + truths[i], x.not(truths[i]), 19 + i);
        }
        for (int i = 0; i < 16; i++) {
            due("not of its not", x.not(19 + i), truths[i]);
            dueNode(x, truths[i], 4, i, NONE, NONE);
            dueNode(x, 19 + i, 7, truths[i], NONE, NONE);
        }
    }

    static void promise6EveryTruthNodeIsTaken() {
        Probe x = new Probe();
        for (int node : truthNodes(x)) {
            due("not twice of " + node, x.not(x.not(node)), node);
        }
    }

    static void promise6EveryWordNodeIsRefused() {
        Probe x = new Probe();
        refusedEach(x, "not", NO_ARGUMENT, x::not, wordNodes(x));
    }

    static void promise6ItIsOfANodeThatThereIs() {
        Probe x = new Probe();
        int last = x.truth();
        refusedOutside(x, "not", 4, x::not);
        due("the last node", x.not(last), 4);
    }

    static void promise6The300thNodeIsTaken() {
        Probe x = new Probe();
        int t = x.truth();
        fill(x, x.word(), 299);
        due("the 300th", x.not(t), 299);
        dueNode(x, 299, 7, t, NONE, NONE);
    }

    static void promise6The301stNodeIsRefused() {
        Probe x = new Probe();
        int t = x.truth();
        fill(x, x.word(), 300);
        refused(x, "of an element", NO_ROOM, () -> x.not(t));
        refused(x, "of FETCH", NO_ROOM, () -> x.not(FETCH));
    }

    static void promise6AFullObjectStillTellsWhatIsThere() {
        Probe x = new Probe();
        int t = x.truth();
        int n = x.not(t);
        fill(x, x.word(), 300);
        due("one that is there", x.not(t), n);
        due("a not's not", x.not(n), t);
        due("not(TRUE)", x.not(TRUE), FALSE);
        due("not(FALSE)", x.not(FALSE), TRUE);
    }

    static void promise6NoRoomIsTheLastToBeThrown() {
        Probe x = new Probe();
        int a = x.word();
        fill(x, a, 300);
        refused(x, "no node", NO_INDEX, () -> x.not(300));
        refused(x, "a word", NO_ARGUMENT, () -> x.not(a));
        refused(x, "the last word", NO_ARGUMENT, () -> x.not(299));
    }

    public static void main(String[] args) {
        playAll(Promise06NotTest.class);
    }
}
