/** The edges of promise 13: which invariants there are, both kinds of step, and when a question is too large. */
final class Promise13KeptTest extends Checks {
    static void promise13ThereAreInvariantsFromZeroToTheLast() {
        Probe x = new Probe();
        int t = x.truth();
        refusedOutside(x, "of none", 0, x::kept);
        x.invariant(t);
        due("the only one", x.kept(0), HOLDS);
        refusedOutside(x, "of one", 1, x::kept);
        for (int i = 1; i < 8; i++) {
            x.invariant(t);
        }
        due("the eighth", x.kept(7), HOLDS);
        refusedOutside(x, "of eight", 8, x::kept);
    }

    static void promise13ARefusedOneLeavesTheLatestAnswer() {
        Probe x = new Probe();
        int t = x.truth();
        x.next(0, x.not(t));
        x.invariant(t);
        refused(x, "ahead of a question", NO_INDEX, () -> x.kept(1));
        dueNoState(x);
        due("kept(0)", x.kept(0), FAILS);
        refused(x, "behind one", NO_INDEX, () -> x.kept(1));
        refused(x, "behind one", NO_INDEX, () -> x.kept(NONE));
        due("differs()", x.differs(), NONE);
        dueState(x, 0, 1);
        dueDeep(x, 0, 1);
    }

    /** Each of eight is asked by its own number. */
    static void promise13TheInvariantOfThatNumberIsAsked() {
        for (int place = 0; place < 8; place++) {
            Probe x = new Probe();
            x.truth();
            int broken = x.truth();
            x.next(1, FALSE);
            for (int i = 0; i < 8; i++) {
                x.invariant(i == place ? broken : TRUE);
            }
            for (int i = 0; i < 8; i++) {
                due("kept(" + i + ")", x.kept(i), i == place ? FAILS : HOLDS);
            }
        }
    }

    static void promise13ItHoldsOfConstants() {
        Probe x = new Probe();
        int t = x.truth();
        x.next(0, x.not(t));
        x.invariant(TRUE);
        due("TRUE", x.kept(0), HOLDS);
        dueDeep(x, 0, 0);
        x.invariant(t);
        due("TRUE, beside another", x.kept(0), HOLDS);
        dueDeep(x, 0, 1);
        due("the other", x.kept(1), FAILS);
        x.invariant(FALSE);
        due("the other, where none holds ahead", x.kept(1), HOLDS);
        due("FALSE", x.kept(2), HOLDS);
    }

    static void promise13WithoutNextNodesAllAreKept() {
        Probe x = new Probe();
        int a = x.word();
        int b = x.word();
        x.invariant(x.equal(a, x.apply(0, b, NONE)));
        due("kept(0)", x.kept(0), HOLDS);
        dueDeep(x, 3, 0);
    }

    static void promise13AStepWithAFetchHasToKeepIt() {
        Probe x = new Probe();
        int t = x.truth();
        x.invariant(t);
        x.next(0, x.not(FETCH));
        due("broken with a fetch alone", x.kept(0), FAILS);
        dueState(x, 1, 1);
    }

    static void promise13AStepWithoutAFetchHasToKeepIt() {
        Probe x = new Probe();
        int t = x.truth();
        x.invariant(t);
        x.next(0, FETCH);
        due("broken without a fetch alone", x.kept(0), FAILS);
        dueState(x, 0, 1);
        x.next(0, TRUE);
        due("broken by neither", x.kept(0), HOLDS);
        x.next(0, x.choice(FETCH, t, TRUE));
        due("kept by both", x.kept(0), HOLDS);
    }

    static void promise13ItIsOneStep() {
        Probe x = new Probe();
        int s = x.truth();
        int t = x.truth();
        x.next(0, t);
        x.next(1, FALSE);
        x.invariant(s);
        due("s becomes t", x.kept(0), FAILS);
        x.invariant(t);
        due("behind one step it is 1, behind two it is not", x.kept(0), HOLDS);
        due("t becomes 0", x.kept(1), FAILS);
    }

    static void promise13AllInvariantsAreTakenToHoldAhead() {
        for (int place = 0; place < 7; place++) {
            Probe x = new Probe();
            int s = x.truth();
            int t = x.truth();
            x.next(0, t);
            for (int i = 0; i < 7; i++) {
                x.invariant(i == place ? t : TRUE);
            }
            due("the eighth", x.invariant(s), 7);
            due("kept(7)", x.kept(7), HOLDS);
        }
    }

    static void promise13PlainNodesAreNotAskedFor() {
        Probe x = new Probe();
        int t = x.truth();
        x.plain(0, FALSE);
        x.invariant(t);
        due("kept(0)", x.kept(0), HOLDS);
        Probe y = new Probe();
        int[] words = words(y, 8);
        for (int e = 0; e < 8; e++) {
            y.plain(e, words[e]);
        }
        y.invariant(y.equal(words[0], words[1]));
        due("eight seen words", y.kept(0), HOLDS);
        dueDeep(y, 2, 0);
        due("which are too large for run()", y.run(0), TOO_LARGE);
    }

    static void promise13SevenWordsAreAnsweredAndEightAreNot() {
        Probe x = new Probe();
        int[] words = words(x, 4);
        x.invariant(allDistinct(x, words));
        int three = x.apply(2, x.apply(1, x.apply(0, words[0], NONE), NONE), NONE);
        x.next(3, three);
        due("four elements and three applications", x.kept(0), FAILS);
        dueDeep(x, 7, 0);
        x.next(3, x.apply(3, three, NONE));
        due("four elements and four applications", x.kept(0), TOO_LARGE);
        dueDeep(x, 8, 0);
        dueNoState(x);
    }

    static void promise13SixTruthElementsAreAnsweredAndSevenAreNot() {
        Probe x = new Probe();
        int[] truths = truths(x, 7);
        x.invariant(bothOfAll(x, truths[0], truths[1], truths[2], truths[3], truths[4]));
        x.next(0, truths[5]);
        due("six elements", x.kept(0), FAILS);
        dueDeep(x, 0, 6);
        dueState(x, 0, 1, 1, 1, 1, 1, 0, 0);
        x.next(1, truths[6]);
        due("seven elements", x.kept(0), TOO_LARGE);
        dueDeep(x, 0, 7);
        dueNoState(x);
    }

    static void promise13FetchCountsAsATruth() {
        Probe x = new Probe();
        int[] truths = truths(x, 6);
        x.invariant(bothOfAll(x, truths[0], truths[1], truths[2], truths[3], truths[4]));
        x.next(0, FETCH);
        due("five elements and FETCH", x.kept(0), FAILS);
        dueDeep(x, 0, 6);
        dueState(x, 0, 1, 1, 1, 1, 1, 0);
        x.next(1, truths[5]);
        due("six elements and FETCH", x.kept(0), TOO_LARGE);
        dueDeep(x, 0, 7);
        x.next(0, TRUE);
        due("six elements", x.kept(0), FAILS);
        dueDeep(x, 0, 6);
    }

    static void promise13FetchThatTheInvariantIsNotMadeOfDoesNotCount() {
        Probe x = new Probe();
        int s = x.truth();
        x.truth();
        x.invariant(x.choice(s, TRUE, FALSE));
        x.next(1, FETCH);
        due("another element becomes FETCH", x.kept(0), HOLDS);
        dueDeep(x, 0, 1);
        x.next(0, x.choice(FETCH, s, TRUE));
        due("its element becomes a choice of FETCH", x.kept(0), HOLDS);
        dueDeep(x, 0, 2);
    }

    static void promise13SevenWordsWithSixTruthsAreAnswered() {
        Probe x = new Probe();
        int[] words = words(x, 7);
        int[] truths = truths(x, 6);
        x.invariant(allDistinct(x, words));
        x.invariant(bothOfAll(x, truths[0], truths[1], truths[2], truths[3], truths[4]));
        x.next(0, x.choice(FETCH, words[0], words[6]));
        due("seven words, five truths and FETCH", x.kept(0), FAILS);
        dueDeep(x, 7, 6);
        dueState(x, 0, 0, 1, 2, 3, 4, 5, 6, 1, 1, 1, 1, 1, 0);
        x.invariant(x.choice(truths[5], TRUE, FALSE));
        due("seven words, six truths and FETCH", x.kept(0), TOO_LARGE);
        dueDeep(x, 7, 7);
    }

    static void promise13OtherInvariantsCountAsTheyAreAhead() {
        Probe x = new Probe();
        int[] words = words(x, 8);
        int t = x.truth();
        x.invariant(t);
        x.invariant(allDistinct(x, words[0], words[1], words[2], words[3], words[4], words[5], words[6]));
        // Behind the step this invariant would be of eight; it is asked as it is ahead.
        x.next(0, words[7]);
        due("seven words", x.kept(0), HOLDS);
        dueDeep(x, 7, 1);
        due("behind the step there are eight", x.kept(1), TOO_LARGE);
        dueDeep(x, 8, 1);
        x.invariant(x.equal(words[0], words[7]));
        due("eight words ahead", x.kept(0), TOO_LARGE);
        dueDeep(x, 8, 1);
    }

    static void promise13AQuestionMakesNoNodesOfTheFace() {
        Probe x = new Probe();
        int a = x.word();
        int b = x.word();
        x.next(0, x.apply(0, a, NONE));
        x.next(1, x.apply(0, b, b));
        due("the invariant", x.invariant(x.equal(a, b)), 0);
        due("kept(0)", x.kept(0), FAILS);
        dueCounts(x, 8, 2, 0, 1, 4, 0);
        refused(x, "a node that came so", NO_INDEX, () -> x.node(8, 0));
        due("the next node that comes", x.equal(5, 6), 8);
        dueNode(x, 8, 6, 5, 6, NONE);
    }

    /** Behind the step the functions are those that they are ahead of it. */
    static void promise13FunctionsAreTheSameAheadOfTheStepAndBehindIt() {
        Probe x = new Probe();
        int a = x.word();
        int f = x.apply(0, a, NONE);
        x.next(0, f);
        x.invariant(x.equal(x.apply(0, f, NONE), f));
        due("f(f(a)) is f(a): so is f(f(f(a))) what f(f(a)) is", x.kept(0), HOLDS);
        dueDeep(x, 4, 0);
        x.next(0, x.choice(FETCH, x.apply(1, a, NONE), f));
        due("with a fetch it is another function's", x.kept(0), FAILS);
        dueState(x, 1, 0);
        x.next(0, x.choice(FETCH, f, x.apply(1, a, NONE)));
        due("without one it is another function's", x.kept(0), FAILS);
        dueState(x, 0, 0);
    }

    static void promise13AFullObjectIsAsked() {
        Probe x = new Probe();
        int[] truths = truths(x, 5);
        x.invariant(bothOfAll(x, truths));
        int last = FETCH;
        for (int i = 0; i < 287; i++) {
            last = x.choice(last, truths[i % 5], truths[(i + 1) % 5]);
        }
        int not = x.not(last);
        due("the last node", not, 299);
        x.next(0, last);
        due("one of those that hold is chosen", x.kept(0), HOLDS);
        dueDeep(x, 0, 6);
        x.next(0, not);
        due("its not", x.kept(0), FAILS);
        dueState(x, 0, 1, 1, 1, 1, 1);
        dueCounts(x, 300, 5, 0, 1);
    }

    public static void main(String[] args) {
        playAll(Promise13KeptTest.class);
    }
}
