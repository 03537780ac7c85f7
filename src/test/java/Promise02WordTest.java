/** The edges of promise 2: sixteen elements, 300 nodes. */
final class Promise02WordTest extends Checks {
    static void promise2WordsAreNumberedAsTheyCome() {
        Probe x = new Probe();
        due("the first", x.word(), 3);
        due("the second is another", x.word(), 4);
        x.not(FETCH);
        due("the third, behind another node", x.word(), 6);
        dueNode(x, 3, 3, 0, NONE, NONE);
        dueNode(x, 4, 3, 1, NONE, NONE);
        dueNode(x, 6, 3, 2, NONE, NONE);
        dueCounts(x, 7, 3, 0, 0);
    }

    static void promise2TheSixteenthElementIsTaken() {
        Probe x = new Probe();
        words(x, 15);
        due("the sixteenth, of words", x.word(), 18);
        dueNode(x, 18, 3, 15, NONE, NONE);
        dueCounts(x, 19, 16, 0, 0);
        Probe y = new Probe();
        truths(y, 15);
        due("the sixteenth, behind truths", y.word(), 18);
        dueNode(y, 18, 3, 15, NONE, NONE);
    }

    static void promise2TheSeventeenthElementIsRefused() {
        Probe x = new Probe();
        words(x, 16);
        refused(x, "the seventeenth, of words", NO_ROOM, x::word);
        Probe y = new Probe();
        truths(y, 16);
        refused(y, "the seventeenth, behind truths", NO_ROOM, y::word);
        Probe z = new Probe();
        truths(z, 8);
        words(z, 8);
        refused(z, "the seventeenth, of both", NO_ROOM, z::word);
    }

    static void promise2ARefusedWordLeavesTheObjectAsItWas() {
        Probe x = new Probe();
        words(x, 16);
        refused(x, "the seventeenth", NO_ROOM, x::word);
        refused(x, "the seventeenth again", NO_ROOM, x::word);
        refused(x, "node 19", NO_INDEX, () -> x.node(19, 0));
        refused(x, "element 16", NO_INDEX, () -> x.next(16, 3));
        due("the next node that comes", x.equal(3, 18), 19);
    }

    static void promise2The300thNodeIsTaken() {
        Probe x = new Probe();
        fill(x, x.word(), 299);
        due("the 300th node", x.word(), 299);
        dueNode(x, 299, 3, 1, NONE, NONE);
        dueCounts(x, 300, 2, 0, 0);
    }

    static void promise2The301stNodeIsRefused() {
        Probe x = new Probe();
        fill(x, x.word(), 300);
        refused(x, "the 301st node", NO_ROOM, x::word);
        dueCounts(x, 300, 1, 0, 0);
    }

    static void promise2TheSeventeenthElementIsRefusedAmong300Nodes() {
        Probe x = new Probe();
        fill(x, words(x, 16)[0], 300);
        refused(x, "neither has room", NO_ROOM, x::word);
    }

    public static void main(String[] args) {
        playAll(Promise02WordTest.class);
    }
}
