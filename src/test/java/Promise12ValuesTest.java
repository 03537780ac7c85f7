/**
 * Promise 12 in numbers: what each kind of node is where its parts are this or that, and that functions are any
 * functions of numbers, the same ones ahead of a step and behind it, one way and the other.
 */
final class Promise12ValuesTest extends Checks {
    /** A truth element that becomes this node has to be this number, wherever the invariants hold. */
    private static void dueValue(Probe x, String what, int seen, int node, int value) {
        x.next(seen, node);
        x.plain(seen, value == 1 ? TRUE : FALSE);
        due(what + " is " + value, x.run(0), HOLDS);
        x.plain(seen, value == 1 ? FALSE : TRUE);
        due(what + " is not " + (1 - value), x.run(0), FAILS);
    }

    /** A word element that becomes this node is the same as one node, and not as another. */
    private static void dueSame(Probe x, String what, int seen, int node, int same, int other) {
        x.next(seen, node);
        x.plain(seen, same);
        due(what + " is the one", x.run(0), HOLDS);
        x.plain(seen, other);
        due(what + " is not the other", x.run(0), FAILS);
    }

    private static void fix(Probe x, int truth, int value) {
        x.invariant(value == 1 ? truth : x.not(truth));
    }

    static void promise12FalseIsZeroAndTrueIsOne() {
        Probe x = new Probe();
        x.truth();
        dueValue(x, "FALSE", 0, FALSE, 0);
        dueValue(x, "TRUE", 0, TRUE, 1);
    }

    static void promise12NotIsTheOtherNumber() {
        for (int value = 0; value <= 1; value++) {
            Probe x = new Probe();
            int t = x.truth();
            x.truth();
            fix(x, t, value);
            dueValue(x, "not", 1, x.not(t), 1 - value);
        }
    }

    static void promise12BothIsOneWhereBothAre() {
        for (int state = 0; state < 4; state++) {
            Probe x = new Probe();
            int[] truths = truths(x, 2);
            x.truth();
            fix(x, truths[0], state >> 1);
            fix(x, truths[1], state & 1);
            dueValue(x, "both in " + state, 2, x.both(truths[0], truths[1]), state == 3 ? 1 : 0);
        }
    }

    static void promise12AChoiceOfTruthsIsTheFirstIfItIsOneElseTheSecond() {
        for (int state = 0; state < 8; state++) {
            Probe x = new Probe();
            int[] truths = truths(x, 3);
            x.truth();
            int c = state >> 2;
            int a = state >> 1 & 1;
            int b = state & 1;
            fix(x, truths[0], c);
            fix(x, truths[1], a);
            fix(x, truths[2], b);
            int node = x.choice(truths[0], truths[1], truths[2]);
            dueValue(x, "a choice in " + state, 3, node, c == 1 ? a : b);
        }
    }

    static void promise12AChoiceOfWordsIsTheFirstIfItIsOneElseTheSecond() {
        for (int c = 0; c <= 1; c++) {
            Probe x = new Probe();
            int a = x.word();
            int b = x.word();
            int t = x.truth();
            x.word();
            fix(x, t, c);
            int node = x.choice(t, a, b);
            dueSame(x, "a choice where it is " + c, 3, node, c == 1 ? a : b, c == 1 ? b : a);
        }
    }

    static void promise12EqualityIsOneWhereNumbersAreTheSame() {
        Probe x = new Probe();
        int[] words = words(x, 3);
        x.truth();
        x.invariant(x.equal(words[0], words[1]));
        dueValue(x, "equality of the same", 3, x.equal(words[0], words[1]), 1);
        dueValue(x, "equality, the other way", 3, x.equal(words[1], words[0]), 1);
        x.invariant(x.not(x.equal(words[1], words[2])));
        dueValue(x, "equality of others", 3, x.equal(words[0], words[2]), 0);
    }

    /** a is b and b is c: so is c a; and of two numbers each word is one or the other, if it says so. */
    static void promise12EqualityGoesOnFromOneToTheNext() {
        Probe x = new Probe();
        int[] words = words(x, 4);
        x.truth();
        x.invariant(x.equal(words[0], words[1]));
        x.invariant(x.equal(words[1], words[2]));
        dueValue(x, "the first and the third", 4, x.equal(words[2], words[0]), 1);
        x.invariant(x.not(x.equal(words[2], words[3])));
        dueValue(x, "the first and the fourth", 4, x.equal(words[0], words[3]), 0);
    }

    static void promise12ChoicesWithinChoicesAreWhatTheyChoose() {
        Probe x = new Probe();
        int[] words = words(x, 3);
        int[] truths = truths(x, 2);
        x.word();
        int inner = x.choice(truths[1], words[1], words[2]);
        int node = x.choice(truths[0], words[0], inner);
        x.invariant(x.not(truths[0]));
        dueSame(x, "the inner one", 5, node, inner, words[0]);
        x.invariant(truths[1]);
        dueSame(x, "the inner one's first", 5, node, words[1], words[2]);
    }

    static void promise12AFunctionOfAChoiceIsThatOfWhatItChooses() {
        for (int c = 0; c <= 1; c++) {
            Probe x = new Probe();
            int a = x.word();
            int b = x.word();
            int t = x.truth();
            x.word();
            fix(x, t, c);
            int one = x.apply(0, x.choice(t, a, b), NONE);
            int ofFirst = x.apply(0, a, NONE);
            int ofSecond = x.apply(0, b, NONE);
            dueSame(x, "of one argument", 3, one, c == 1 ? ofFirst : ofSecond, c == 1 ? ofSecond : ofFirst);
            int two = x.apply(0, a, x.choice(t, a, b));
            int withFirst = x.apply(0, a, a);
            int withSecond = x.apply(0, a, b);
            dueSame(x, "of two arguments", 3, two, c == 1 ? withFirst : withSecond, c == 1 ? withSecond : withFirst);
        }
    }

    /** Numbers that no word element is can come of functions: one word and six applications are seven. */
    static void promise12ApplicationsCanBeNumbersThatNoElementIs() {
        Probe x = new Probe();
        int[] chain = new int[7];
        chain[0] = x.word();
        x.truth();
        for (int i = 1; i < 7; i++) {
            chain[i] = x.apply(0, chain[i - 1], NONE);
        }
        x.next(1, FALSE);
        x.plain(1, allDistinct(x, chain));
        due("seven numbers", x.run(0), FAILS);
        dueDeep(x, 7, 0);
        dueState(x, 1, 0, 0);
        Probe y = new Probe();
        int[] words = words(y, 3);
        y.truth();
        int[] all = new int[7];
        System.arraycopy(words, 0, all, 0, 3);
        for (int i = 3; i < 7; i++) {
            all[i] = y.apply(i, words[0], NONE);
        }
        y.next(3, FALSE);
        y.plain(3, allDistinct(y, all));
        due("three words and four functions of one of them", y.run(0), FAILS);
        dueState(y, 1, 0, 1, 2, 0);
    }

    static void promise12ApplicationsCanBeNumbersThatElementsAre() {
        Probe x = new Probe();
        int a = x.word();
        int b = x.word();
        x.truth();
        int f = x.apply(0, a, NONE);
        x.next(2, FALSE);
        x.plain(2, x.both(x.equal(f, b), x.not(x.equal(a, b))));
        due("what f answers is the other word", x.run(0), FAILS);
        dueState(x, 1, 0, 1, 0);
        x.plain(2, x.equal(f, a));
        due("what f answers is its argument", x.run(0), FAILS);
        dueState(x, 1, 0, 0, 0);
    }

    /** Where f(a) is f(b), nothing says that a is b; what f is of other numbers, nothing says either. */
    static void promise12WhatAFunctionAnswersTellsNothingOfItsArguments() {
        Probe x = new Probe();
        int a = x.word();
        int b = x.word();
        x.truth();
        x.invariant(x.equal(x.apply(0, a, NONE), x.apply(0, b, NONE)));
        x.next(2, x.equal(a, b));
        x.plain(2, TRUE);
        due("the same of two", x.run(0), FAILS);
        dueState(x, 1, 0, 1, 0);
        x.next(2, x.equal(x.apply(1, a, NONE), x.apply(1, b, NONE)));
        due("another function", x.run(0), FAILS);
    }

    /** Invariants speak of the functions that steps apply: where f(a) is a, so is f(f(a)). */
    static void promise12FunctionsAreTheSameInInvariantsAndSteps() {
        Probe x = new Probe();
        int a = x.word();
        int f = x.apply(3, a, NONE);
        x.next(0, f);
        x.plain(0, a);
        due("f(a) is not a", x.run(0), FAILS);
        x.invariant(x.equal(f, a));
        for (int depth = 0; depth <= 5; depth++) {
            due("after " + (depth + 1) + " steps", x.run(depth), HOLDS);
            dueDeep(x, depth + 2, 0);
        }
        Probe y = new Probe();
        int b = y.word();
        int g = y.apply(3, b, b);
        y.next(0, g);
        y.plain(0, b);
        y.invariant(y.equal(g, b));
        due("of two arguments", y.run(2), HOLDS);
        dueDeep(y, 4, 0);
    }

    /** f(f(f(a))) and f(f(f(f(f(a))))) are a: so is f(a). */
    static void promise12FunctionsAreTheSameAtAllTheirPlaces() {
        Probe x = new Probe();
        int a = x.word();
        x.truth();
        int[] chain = new int[6];
        chain[0] = a;
        for (int i = 1; i < 6; i++) {
            chain[i] = x.apply(0, chain[i - 1], NONE);
        }
        x.next(1, x.equal(chain[1], a));
        x.plain(1, TRUE);
        x.invariant(x.equal(chain[3], a));
        due("three times alone", x.run(0), FAILS);
        x.invariant(x.equal(chain[5], a));
        due("three times and five times", x.run(0), HOLDS);
        dueDeep(x, 6, 0);
    }

    /** The equation is of nodes, but asks for numbers: other nodes may always be the same. */
    static void promise12OtherNodesCanBeTheSame() {
        Probe x = new Probe();
        int s = x.truth();
        int t = x.truth();
        x.truth();
        x.next(2, x.choice(s, t, FALSE));
        x.plain(2, x.both(s, t));
        due("a choice with FALSE is both", x.run(0), HOLDS);
        dueDeep(x, 0, 2);
        x.next(2, x.choice(s, TRUE, t));
        x.plain(2, x.not(x.both(x.not(s), x.not(t))));
        due("a choice with TRUE is not both of nots", x.run(0), HOLDS);
        int a = x.word();
        int b = x.word();
        x.word();
        x.plain(5, a);
        x.next(5, x.choice(x.equal(a, b), b, a));
        due("the other word where it is the same", x.run(0), HOLDS);
        dueDeep(x, 2, 2);
        x.next(5, x.choice(x.equal(a, b), a, b));
        due("the other word where it is not", x.run(0), FAILS);
        dueState(x, 1, 0, 0, 0, 0, 1, 0);
        due("differs()", x.differs(), 5);
    }

    public static void main(String[] args) {
        playAll(Promise12ValuesTest.class);
    }
}
