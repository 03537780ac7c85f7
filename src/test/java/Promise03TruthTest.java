/** The edges of promise 3: sixteen elements, 300 nodes. */
final class Promise03TruthTest extends Checks {
    static void promise3TruthsAreNumberedAsTheyComeTogetherWithWords() {
        Probe x = new Probe();
        due("the first", x.truth(), 3);
        due("the second is another", x.truth(), 4);
        x.word();
        due("the third, behind a word", x.truth(), 6);
        dueNode(x, 3, 4, 0, NONE, NONE);
        dueNode(x, 4, 4, 1, NONE, NONE);
        dueNode(x, 6, 4, 3, NONE, NONE);
        dueCounts(x, 7, 4, 0, 0);
    }

    static void promise3TheSixteenthElementIsTaken() {
        Probe x = new Probe();
        truths(x, 15);
        due("the sixteenth, of truths", x.truth(), 18);
        dueNode(x, 18, 4, 15, NONE, NONE);
        dueCounts(x, 19, 16, 0, 0);
        Probe y = new Probe();
        words(y, 15);
        due("the sixteenth, behind words", y.truth(), 18);
        dueNode(y, 18, 4, 15, NONE, NONE);
    }

    static void promise3TheSeventeenthElementIsRefused() {
        Probe x = new Probe();
        truths(x, 16);
        refused(x, "the seventeenth, of truths", NO_ROOM, x::truth);
        Probe y = new Probe();
        words(y, 16);
        refused(y, "the seventeenth, behind words", NO_ROOM, y::truth);
        Probe z = new Probe();
        words(z, 8);
        truths(z, 8);
        refused(z, "the seventeenth, of both", NO_ROOM, z::truth);
    }

    static void promise3ARefusedTruthLeavesTheObjectAsItWas() {
        Probe x = new Probe();
        truths(x, 16);
        refused(x, "the seventeenth", NO_ROOM, x::truth);
        refused(x, "the seventeenth again", NO_ROOM, x::truth);
        refused(x, "node 19", NO_INDEX, () -> x.node(19, 0));
        refused(x, "element 16", NO_INDEX, () -> x.next(16, 3));
        due("the next node that comes", x.not(3), 19);
    }

    static void promise3The300thNodeIsTaken() {
        Probe x = new Probe();
        fill(x, x.word(), 299);
        due("the 300th node", x.truth(), 299);
        dueNode(x, 299, 4, 1, NONE, NONE);
        dueCounts(x, 300, 2, 0, 0);
    }

    static void promise3The301stNodeIsRefused() {
        Probe x = new Probe();
        fill(x, x.word(), 300);
        refused(x, "the 301st node", NO_ROOM, x::truth);
        dueCounts(x, 300, 1, 0, 0);
    }

    public static void main(String[] args) {
        playAll(Promise03TruthTest.class);
    }
}
