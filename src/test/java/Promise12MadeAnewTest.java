/**
 * The edges of promise 12 in what has parts that are put in: it is made anew as the plainest node, each once. How many
 * deep nodes are left tells it.
 */
final class Promise12MadeAnewTest extends Checks {
    /** Elements are numbered as they stand here; the seen one becomes 1 one way, and a plain node the other. */
    private static final int A = 0;
    private static final int B = 1;
    private static final int U = 2;
    private static final int V = 3;
    private static final int P = 4;
    private static final int Q = 5;
    private static final int R = 6;
    private static final int S = 7;
    private static final int SEEN = 8;

    private static Probe elements() {
        Probe x = new Probe();
        words(x, 4);
        truths(x, 5);
        x.next(SEEN, TRUE);
        return x;
    }

    private static int at(int element) {
        return 3 + element;
    }

    /** The deep nodes of a plain node in which one step's next nodes are put in. */
    private static void dueBehindAStep(Probe x, String what, int node, int words, int truths) {
        x.plain(SEEN, node);
        due(what + " is answered", x.run(1) != TOO_LARGE, true);
        due(what + ": deep words", x.count(4), words);
        due(what + ": deep truths", x.count(5), truths);
    }

    static void promise12EqualityOfANodeWithItself() {
        Probe x = elements();
        int same = x.equal(at(A), at(B));
        dueBehindAStep(x, "as it is", same, 2, 0);
        x.next(A, at(B));
        dueBehindAStep(x, "with itself", same, 0, 0);
    }

    static void promise12NotOfTrue() {
        Probe x = elements();
        int node = x.both(x.not(at(P)), at(Q));
        dueBehindAStep(x, "as it is", node, 0, 2);
        x.next(P, TRUE);
        dueBehindAStep(x, "FALSE, and both with it", node, 0, 0);
    }

    static void promise12NotOfFalse() {
        Probe x = elements();
        int node = x.choice(x.not(at(P)), at(Q), at(R));
        dueBehindAStep(x, "as it is", node, 0, 3);
        x.next(P, FALSE);
        dueBehindAStep(x, "TRUE, and a choice of it", node, 0, 1);
    }

    static void promise12NotOfANot() {
        Probe x = elements();
        int node = x.choice(at(R), x.not(at(P)), at(Q));
        dueBehindAStep(x, "as it is", node, 0, 3);
        x.next(P, x.not(at(Q)));
        dueBehindAStep(x, "what that is of, and a choice of it twice", node, 0, 1);
    }

    static void promise12BothWithFalse() {
        Probe x = elements();
        int node = x.both(at(P), at(Q));
        dueBehindAStep(x, "as it is", node, 0, 2);
        x.next(P, FALSE);
        dueBehindAStep(x, "FALSE ahead", node, 0, 0);
        x.next(P, at(P));
        x.next(Q, FALSE);
        dueBehindAStep(x, "FALSE behind", node, 0, 0);
    }

    static void promise12BothWithTrue() {
        Probe x = elements();
        int node = x.choice(at(R), x.both(at(P), at(Q)), at(Q));
        dueBehindAStep(x, "as it is", node, 0, 3);
        x.next(P, TRUE);
        dueBehindAStep(x, "TRUE ahead", node, 0, 1);
        int other = x.choice(at(R), x.both(at(Q), at(S)), at(Q));
        x.next(S, TRUE);
        dueBehindAStep(x, "TRUE behind", other, 0, 1);
    }

    static void promise12BothOfOneNodeTwice() {
        Probe x = elements();
        int node = x.choice(at(R), x.both(at(P), at(Q)), at(Q));
        x.next(P, at(Q));
        dueBehindAStep(x, "that, and a choice of it twice", node, 0, 1);
    }

    static void promise12AChoiceOfTrueAndOfFalse() {
        Probe x = elements();
        int node = x.equal(x.choice(at(P), at(A), at(B)), at(U));
        dueBehindAStep(x, "as it is", node, 3, 1);
        x.next(P, TRUE);
        x.next(U, at(B));
        dueBehindAStep(x, "the first one", node, 2, 0);
        x.next(P, FALSE);
        dueBehindAStep(x, "the second one, equal to itself", node, 0, 0);
    }

    static void promise12AChoiceOfOneNodeTwice() {
        Probe x = elements();
        int words = x.equal(x.choice(at(P), at(A), at(B)), at(U));
        x.next(A, at(B));
        dueBehindAStep(x, "of words", words, 2, 0);
        int truths = x.choice(at(P), at(Q), at(R));
        dueBehindAStep(x, "of truths", truths, 0, 3);
        x.next(Q, at(R));
        dueBehindAStep(x, "of truths, twice", truths, 0, 1);
    }

    static void promise12FetchIsPutInToo() {
        Probe x = elements();
        x.plain(SEEN, at(P));
        x.next(SEEN, x.choice(FETCH, at(P), x.both(at(Q), at(R))));
        due("with a fetch", x.run(0), HOLDS);
        dueDeep(x, 0, 1);
        due("without one", x.run(1), FAILS);
        dueDeep(x, 0, 3);
    }

    static void promise12EqualityEitherWayIsOne() {
        Probe x = elements();
        int node = x.choice(at(P), x.equal(at(A), at(B)), x.equal(at(U), at(V)));
        dueBehindAStep(x, "as it is", node, 4, 1);
        x.next(U, at(B));
        x.next(V, at(A));
        dueBehindAStep(x, "the other way", node, 2, 0);
    }

    static void promise12BothEitherWayIsOne() {
        Probe x = elements();
        int node = x.choice(x.equal(at(A), at(B)), x.both(at(P), at(Q)), x.both(at(R), at(S)));
        dueBehindAStep(x, "as it is", node, 2, 4);
        x.next(R, at(Q));
        x.next(S, at(P));
        dueBehindAStep(x, "the other way", node, 0, 2);
    }

    static void promise12EachApplicationComesOnce() {
        Probe x = elements();
        int one = x.equal(x.apply(0, at(A), NONE), at(B));
        int other = x.equal(x.apply(0, at(U), NONE), at(B));
        int node = x.choice(at(P), one, other);
        dueBehindAStep(x, "as it is", node, 5, 1);
        x.next(U, at(A));
        dueBehindAStep(x, "of one argument", node, 3, 0);
        int two = x.equal(x.apply(1, at(A), at(B)), at(B));
        int twoOther = x.equal(x.apply(1, at(U), at(V)), at(B));
        int twoNode = x.choice(at(P), two, twoOther);
        dueBehindAStep(x, "one argument is another", twoNode, 5, 1);
        x.next(V, at(B));
        dueBehindAStep(x, "of two arguments", twoNode, 3, 0);
    }

    static void promise12ArgumentsDoNotGoEitherWay() {
        Probe x = elements();
        int one = x.equal(x.apply(1, at(A), at(B)), at(A));
        int other = x.equal(x.apply(1, at(U), at(V)), at(A));
        x.next(U, at(B));
        x.next(V, at(A));
        dueBehindAStep(x, "two applications", x.choice(at(P), one, other), 4, 1);
    }

    static void promise12NothingElseIsPlainer() {
        Probe x = elements();
        int node = x.both(at(P), at(Q));
        x.next(P, x.not(at(Q)));
        dueBehindAStep(x, "a node and its not are deep", node, 0, 1);
        due("though they are never both 1", x.differs(), SEEN);
        int chosen = x.choice(at(R), at(P), at(Q));
        int chosenOf = x.choice(at(S), chosen, at(R));
        int not = x.choice(at(S), chosen, x.not(at(R)));
        x.next(P, TRUE);
        x.next(Q, FALSE);
        dueBehindAStep(x, "TRUE, else FALSE, is not what it is chosen by", chosenOf, 0, 2);
        x.next(P, FALSE);
        x.next(Q, TRUE);
        dueBehindAStep(x, "FALSE, else TRUE, is not its not", not, 0, 2);
    }

    public static void main(String[] args) {
        playAll(Promise12MadeAnewTest.class);
    }
}
