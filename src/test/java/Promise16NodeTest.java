/** The edges of promise 16: which nodes and which parts there are, and NONE where a kind has none. */
final class Promise16NodeTest extends Checks {
    static void promise16ThereAreNodesFromZeroToTheLast() {
        Probe x = new Probe();
        refusedOutside(x, "of three", 3, n -> x.node(n, 0));
        due("the first", x.node(0, 0), 0);
        due("the last", x.node(2, 0), 2);
        x.word();
        due("one more", x.node(3, 0), 3);
        for (int what = 0; what <= 3; what++) {
            int asked = what;
            refusedOutside(x, "of four", 4, n -> x.node(n, asked));
        }
    }

    static void promise16ThereAre300NodesAtMost() {
        Probe x = new Probe();
        int a = x.word();
        fill(x, a, 300);
        dueNode(x, 299, 5, 298, NONE, 7);
        refusedOutside(x, "of 300", 300, n -> x.node(n, 0));
        refused(x, "one more", NO_ROOM, () -> x.apply(0, a, a));
        refused(x, "node 300", NO_INDEX, () -> x.node(300, 0));
    }

    static void promise16AnotherWhatIsRefused() {
        Probe x = new Probe();
        int t = x.truth();
        for (int node : new int[] {FALSE, FETCH, t, x.choice(t, FETCH, TRUE)}) {
            refusedEach(x, "what", NO_INDEX, what -> x.node(node, what), -1, 4, LOWEST, HIGHEST);
        }
    }

    static void promise16NeitherNodeNorWhatIsThere() {
        Probe x = new Probe();
        refused(x, "no node and no what", NO_INDEX, () -> x.node(3, 4));
        refused(x, "NONE of NONE", NO_INDEX, () -> x.node(NONE, NONE));
    }

    static void promise16ConstantsHaveNoParts() {
        Probe x = new Probe();
        dueNode(x, FALSE, 0, NONE, NONE, NONE);
        dueNode(x, TRUE, 1, NONE, NONE, NONE);
        dueNode(x, FETCH, 2, NONE, NONE, NONE);
    }

    static void promise16AnElementHasItsNumberAmongElements() {
        Probe x = new Probe();
        for (int e = 0; e < 16; e++) {
            boolean word = e % 3 != 1;
            int made = word ? x.word() : x.truth();
            dueNode(x, made, word ? 3 : 4, e, NONE, NONE);
            if (word) {
                x.apply(0, made, NONE);
            }
        }
    }

    static void promise16AnApplicationHasItsArgumentsAndItsFunction() {
        Probe x = new Probe();
        int a = x.word();
        int b = x.word();
        dueNode(x, x.apply(0, b, a), 5, b, a, 0);
        dueNode(x, x.apply(7, a, b), 5, a, b, 7);
        dueNode(x, x.apply(0, b, NONE), 5, b, NONE, 0);
        dueNode(x, x.apply(7, b, NONE), 5, b, NONE, 7);
    }

    static void promise16EqualityAndBothHaveTheLowerNodeFirst() {
        Probe x = new Probe();
        int a = x.word();
        int b = x.word();
        int s = x.truth();
        int t = x.truth();
        dueNode(x, x.equal(b, a), 6, a, b, NONE);
        dueNode(x, x.equal(a, x.apply(0, a, NONE)), 6, a, 8, NONE);
        dueNode(x, x.both(t, s), 8, s, t, NONE);
        dueNode(x, x.both(s, FETCH), 8, FETCH, s, NONE);
    }

    static void promise16ANotHasOnePart() {
        Probe x = new Probe();
        int t = x.truth();
        dueNode(x, x.not(t), 7, t, NONE, NONE);
        dueNode(x, x.not(FETCH), 7, FETCH, NONE, NONE);
    }

    static void promise16AChoiceHasThreePartsAsTheyWereTold() {
        Probe x = new Probe();
        int c = x.truth();
        int a = x.word();
        int b = x.word();
        dueNode(x, x.choice(c, b, a), 9, c, b, a);
        dueNode(x, x.choice(c, a, b), 9, c, a, b);
        dueNode(x, x.choice(c, TRUE, FALSE), 9, c, TRUE, FALSE);
        dueNode(x, x.choice(FETCH, FALSE, c), 9, FETCH, FALSE, c);
    }

    static void promise16NothingThatIsToldOrAskedChangesANode() {
        Probe x = new Probe();
        int t = x.truth();
        int n = x.not(t);
        x.next(0, n);
        x.plain(0, TRUE);
        x.invariant(n);
        x.run(8);
        x.kept(0);
        dueNode(x, t, 4, 0, NONE, NONE);
        dueNode(x, n, 7, t, NONE, NONE);
        due("nodes", x.count(0), 5);
    }

    public static void main(String[] args) {
        playAll(Promise16NodeTest.class);
    }
}
