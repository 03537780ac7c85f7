/** The edges of promise 12: depths, what a step and a plain step are, invariants, and when a question is too large. */
final class Promise12RunTest extends Checks {
    static void promise12DepthsGoFromZeroToEight() {
        Probe x = new Probe();
        x.plain(0, x.word());
        for (int depth = 0; depth <= 8; depth++) {
            due("run(" + depth + ")", x.run(depth), HOLDS);
        }
        refusedEach(x, "run", NO_ARGUMENT, x::run, -1, 9, LOWEST, HIGHEST);
    }

    static void promise12ARefusedDepthLeavesTheLatestAnswer() {
        Probe x = new Probe();
        int t = x.truth();
        refused(x, "ahead of a question", NO_ARGUMENT, () -> x.run(9));
        dueNoState(x);
        x.plain(0, x.not(t));
        due("run(0)", x.run(0), FAILS);
        refused(x, "behind one", NO_ARGUMENT, () -> x.run(-1));
        due("differs()", x.differs(), 0);
        dueState(x, 1, 0);
        dueDeep(x, 0, 1);
    }

    static void promise12WithoutSeenElementsItHolds() {
        Probe x = new Probe();
        int t = x.truth();
        int a = x.word();
        x.next(0, x.not(t));
        x.next(1, x.apply(0, a, NONE));
        x.invariant(x.choice(t, FALSE, TRUE));
        for (int depth = 0; depth <= 8; depth++) {
            due("run(" + depth + ")", x.run(depth), HOLDS);
            dueDeep(x, 0, 1);
        }
    }

    /** Element 0 is seen, and becomes 1 when a fetch has come through so many stages. */
    private static Probe stages(int count) {
        Probe x = new Probe();
        int seen = x.truth();
        int[] stage = truths(x, count);
        for (int i = 0; i < count; i++) {
            x.next(1 + i, i == 0 ? FETCH : stage[i - 1]);
        }
        x.next(0, count == 0 ? FETCH : stage[count - 1]);
        x.plain(0, TRUE);
        due("the seen one", seen, 3);
        return x;
    }

    static void promise12OneWayIsAStepWithAFetchAndThenAsManyWithoutAsTheDepth() {
        for (int count = 0; count <= 9; count++) {
            Probe x = stages(count);
            for (int depth = 0; depth <= 8; depth++) {
                due(count + " stages, run(" + depth + ")", x.run(depth), depth == count ? HOLDS : FAILS);
                // What was in a stage comes out of it, as long as the fetch did not.
                dueDeep(x, 0, depth < count ? 1 : 0);
            }
        }
    }

    static void promise12TheOtherWayIsAsManyStepsWithoutAFetchAsTheDepthAndThenThePlainStep() {
        Probe x = new Probe();
        x.truth();
        int[] stage = truths(x, 8);
        for (int i = 1; i < 8; i++) {
            x.next(1 + i, stage[i - 1]);
        }
        x.next(0, stage[7]);
        x.plain(0, stage[7]);
        x.next(1, TRUE);
        for (int depth = 0; depth <= 8; depth++) {
            due("run(" + depth + ")", x.run(depth), HOLDS);
            dueDeep(x, 0, depth < 8 ? 1 : 0);
        }
        x.next(1, FETCH);
        due("no fetch came in", x.run(7), HOLDS);
        due("one way has one, the other none", x.run(8), FAILS);
        dueDeep(x, 0, 0);
    }

    static void promise12WithAFetchFetchIsTrueAndWithoutItIsFalse() {
        Probe x = new Probe();
        int a = x.word();
        int f = x.apply(0, a, NONE);
        int g = x.apply(1, a, NONE);
        x.next(0, x.choice(FETCH, f, g));
        x.plain(0, f);
        due("the step with a fetch", x.run(0), HOLDS);
        dueDeep(x, 2, 0);
        // One way g of f, the other way f of g.
        due("and one without", x.run(1), FAILS);
        dueDeep(x, 5, 0);
        x.plain(0, g);
        due("one without is not one with", x.run(0), FAILS);
        dueDeep(x, 3, 0);
    }

    static void promise12AQuestionMakesNoNodesOfTheFace() {
        Probe x = new Probe();
        int a = x.word();
        x.next(0, x.apply(0, a, NONE));
        x.plain(0, x.apply(0, a, NONE));
        due("six applications", x.run(5), HOLDS);
        dueCounts(x, 5, 1, 1, 0, 7, 0);
        refused(x, "one of them", NO_INDEX, () -> x.node(5, 0));
        due("the next node that comes", x.apply(0, 4, NONE), 5);
    }

    static void promise12AFullObjectIsAsked() {
        Probe x = new Probe();
        int[] truths = truths(x, 6);
        int last = x.both(truths[0], truths[5]);
        for (int i = 0; i < 145; i++) {
            last = x.not(x.both(last, truths[i % 6]));
        }
        due("the last node", last, 299);
        for (int e = 0; e < 6; e++) {
            x.next(e, e == 0 ? last : truths[e - 1]);
        }
        x.plain(5, truths[4]);
        for (int depth = 0; depth <= 8; depth++) {
            due("run(" + depth + ")", x.run(depth), HOLDS);
        }
        dueDeep(x, 0, 6);
        dueCounts(x, 300, 6, 1, 0);
    }

    static void promise12NoInvariantNeedsToHoldBehindAStep() {
        Probe x = new Probe();
        x.truth();
        int t = x.truth();
        x.next(0, t);
        x.next(1, FALSE);
        x.plain(0, TRUE);
        x.invariant(t);
        due("ahead of the step", x.run(0), HOLDS);
        due("behind the step it no longer holds", x.run(1), FAILS);
        dueState(x, 1, 0, 1);
    }

    static void promise12EachOfEightInvariantsCounts() {
        for (int place = 0; place < 8; place++) {
            Probe x = new Probe();
            x.truth();
            int t = x.truth();
            x.next(0, t);
            x.plain(0, TRUE);
            for (int i = 0; i < 8; i++) {
                x.invariant(i == place ? t : TRUE);
            }
            due("the invariant " + place, x.run(0), HOLDS);
            Probe y = new Probe();
            y.truth();
            int u = y.truth();
            y.next(0, u);
            y.plain(0, TRUE);
            for (int i = 0; i < place; i++) {
                y.invariant(TRUE);
            }
            due("without it", y.run(0), FAILS);
        }
    }

    static void promise12InvariantsThatNeverHoldShowNothing() {
        Probe x = new Probe();
        int t = x.truth();
        x.plain(0, x.not(t));
        x.invariant(t);
        due("one", x.run(0), FAILS);
        dueState(x, 1, 1);
        x.invariant(x.not(t));
        due("with its not", x.run(0), HOLDS);
        Probe y = new Probe();
        y.plain(0, y.not(y.truth()));
        y.invariant(FALSE);
        due("FALSE", y.run(0), HOLDS);
        dueDeep(y, 0, 1);
    }

    static void promise12SevenWordElementsAreAnsweredAndEightAreNot() {
        Probe x = new Probe();
        int[] words = words(x, 8);
        int seen = x.truth();
        x.next(8, TRUE);
        int seven = TRUE;
        for (int i = 1; i < 7; i++) {
            seven = x.both(seven, x.equal(words[0], words[i]));
        }
        x.plain(8, seven);
        due("seven", x.run(0), FAILS);
        dueDeep(x, 7, 0);
        x.plain(8, x.both(seven, x.equal(words[0], words[7])));
        due("eight", x.run(0), TOO_LARGE);
        dueDeep(x, 8, 0);
        dueNoState(x);
        x.plain(8, seen);
        due("none", x.run(0), FAILS);
        dueDeep(x, 0, 1);
    }

    static void promise12SixApplicationsOfAWordAreAnsweredAndSevenAreNot() {
        for (int arguments = 1; arguments <= 2; arguments++) {
            Probe x = new Probe();
            int a = x.word();
            int last = a;
            for (int i = 0; i < 6; i++) {
                last = x.apply(0, last, arguments == 1 ? NONE : a);
            }
            x.plain(0, last);
            due("six", x.run(0), FAILS);
            dueDeep(x, 7, 0);
            x.plain(0, x.apply(0, last, arguments == 1 ? NONE : a));
            due("seven", x.run(0), TOO_LARGE);
            dueDeep(x, 8, 0);
            dueNoState(x);
        }
    }

    static void promise12ElementsAndApplicationsCountTogether() {
        Probe x = new Probe();
        int[] words = words(x, 5);
        x.truth();
        x.next(5, TRUE);
        int four = allDistinct(x, words[0], words[1], words[2], words[3]);
        int three = x.apply(2, x.apply(1, x.apply(0, words[0], NONE), NONE), NONE);
        x.plain(5, x.both(four, x.equal(three, words[0])));
        due("four and three", x.run(0), FAILS);
        dueDeep(x, 7, 0);
        x.plain(5, x.both(four, x.equal(three, words[4])));
        due("five and three", x.run(0), TOO_LARGE);
        dueDeep(x, 8, 0);
        x.plain(5, x.both(four, x.equal(x.apply(0, three, NONE), words[0])));
        due("four and four", x.run(0), TOO_LARGE);
        dueDeep(x, 8, 0);
    }

    static void promise12SixTruthElementsAreAnsweredAndSevenAreNot() {
        Probe x = new Probe();
        int[] truths = truths(x, 7);
        int six = bothOfAll(x, truths[0], truths[1], truths[2], truths[3], truths[4], truths[5]);
        x.plain(0, six);
        due("six", x.run(0), FAILS);
        dueDeep(x, 0, 6);
        dueState(x, 1, 1, 0, 0, 0, 0, 0, 0);
        x.plain(0, x.both(six, truths[6]));
        due("seven", x.run(0), TOO_LARGE);
        dueDeep(x, 0, 7);
        dueNoState(x);
    }

    static void promise12SevenWordsWithSixTruthsAreAnswered() {
        Probe x = new Probe();
        int[] words = words(x, 8);
        int[] truths = truths(x, 7);
        int six = bothOfAll(x, truths[0], truths[1], truths[2], truths[3], truths[4], truths[5]);
        int seven = allDistinct(x, words[0], words[1], words[2], words[3], words[4], words[5], words[6]);
        x.invariant(six);
        x.plain(8, x.not(seven));
        due("seven words and six truths", x.run(0), FAILS);
        dueDeep(x, 7, 6);
        dueState(x, 1, 0, 1, 2, 3, 4, 5, 6, 0, 1, 1, 1, 1, 1, 1, 0);
        x.invariant(x.choice(truths[6], FALSE, TRUE));
        due("seven words and seven truths", x.run(0), TOO_LARGE);
        dueDeep(x, 7, 7);
        x.plain(8, x.not(x.both(seven, x.equal(words[6], words[7]))));
        due("eight words and seven truths", x.run(0), TOO_LARGE);
        dueDeep(x, 8, 7);
    }

    static void promise12EightWordsWithSixTruthsAreTooLarge() {
        Probe x = new Probe();
        int[] words = words(x, 8);
        int[] truths = truths(x, 6);
        x.invariant(bothOfAll(x, truths));
        x.plain(8, allDistinct(x, words));
        due("eight words and six truths", x.run(0), TOO_LARGE);
        dueDeep(x, 8, 6);
    }

    static void promise12BothWaysCountTogetherAndWhatBothHaveOnce() {
        Probe x = new Probe();
        int[] words = words(x, 8);
        x.truth();
        x.next(8, allDistinct(x, words[0], words[1], words[2], words[3]));
        x.plain(8, allDistinct(x, words[4], words[5], words[6]));
        due("four and three", x.run(0), FAILS);
        dueDeep(x, 7, 0);
        x.plain(8, allDistinct(x, words[4], words[5], words[6], words[7]));
        due("four and four", x.run(0), TOO_LARGE);
        dueDeep(x, 8, 0);
        x.plain(8, allDistinct(x, words[3], words[4], words[5], words[6]));
        due("four and four, of which one is of both", x.run(0), FAILS);
        dueDeep(x, 7, 0);
    }

    static void promise12AllSeenElementsCountTogether() {
        Probe x = new Probe();
        int[] truths = truths(x, 7);
        for (int e = 0; e < 6; e++) {
            x.plain(e, truths[e]);
        }
        due("six seen", x.run(0), HOLDS);
        dueDeep(x, 0, 6);
        x.plain(6, truths[6]);
        due("seven seen", x.run(0), TOO_LARGE);
        dueDeep(x, 0, 7);
    }

    static void promise12ElementsThatAreNotSeenDoNotCount() {
        Probe x = new Probe();
        int[] words = words(x, 10);
        int[] truths = truths(x, 6);
        for (int e = 0; e < 10; e++) {
            x.next(e, words[(e + 1) % 10]);
        }
        x.next(10, x.choice(FETCH, truths[1], truths[2]));
        x.plain(3, words[4]);
        for (int depth = 0; depth <= 8; depth++) {
            due("run(" + depth + ")", x.run(depth), HOLDS);
            dueDeep(x, 1, 0);
        }
    }

    static void promise12InvariantsCountThoughNothingIsSeen() {
        Probe x = new Probe();
        int[] words = words(x, 8);
        x.invariant(allDistinct(x, words[0], words[1], words[2], words[3], words[4], words[5], words[6]));
        due("seven words", x.run(0), HOLDS);
        dueDeep(x, 7, 0);
        x.invariant(x.equal(words[0], words[7]));
        due("eight words", x.run(0), TOO_LARGE);
        dueDeep(x, 8, 0);
        Probe y = new Probe();
        int[] truths = truths(y, 7);
        y.invariant(bothOfAll(y, truths[0], truths[1], truths[2], truths[3], truths[4], truths[5]));
        due("six truths", y.run(8), HOLDS);
        dueDeep(y, 0, 6);
        y.invariant(truths[6]);
        due("seven truths", y.run(8), TOO_LARGE);
        dueDeep(y, 0, 7);
    }

    /** One node both ways has to be no larger than two. */
    static void promise12OneNodeBothWaysCounts() {
        Probe x = new Probe();
        int[] words = words(x, 8);
        x.truth();
        int seven = allDistinct(x, words[0], words[1], words[2], words[3], words[4], words[5], words[6]);
        x.next(8, seven);
        x.plain(8, seven);
        due("seven words", x.run(0), HOLDS);
        dueDeep(x, 7, 0);
        int eight = x.both(seven, x.equal(words[1], words[7]));
        x.next(8, eight);
        x.plain(8, eight);
        due("eight words", x.run(0), TOO_LARGE);
        dueDeep(x, 8, 0);
    }

    static void promise12NodesOfOtherKindsDoNotCount() {
        Probe x = new Probe();
        int a = x.word();
        int b = x.word();
        int t = x.truth();
        int chosen = x.choice(t, a, b);
        int last = x.choice(x.equal(chosen, a), x.not(t), x.both(t, x.equal(a, b)));
        for (int i = 0; i < 40; i++) {
            last = x.choice(last, x.equal(chosen, b), x.not(x.both(t, last)));
        }
        x.plain(2, last);
        x.next(2, last);
        due("run(0)", x.run(0), HOLDS);
        dueDeep(x, 2, 1);
    }

    static void promise12TooLargeIsAskedAnewAtEachDepth() {
        Probe x = new Probe();
        int a = x.word();
        int f = x.apply(0, a, NONE);
        x.next(0, f);
        x.plain(0, f);
        due("six applications", x.run(5), HOLDS);
        dueDeep(x, 7, 0);
        due("seven applications", x.run(6), TOO_LARGE);
        dueDeep(x, 8, 0);
        due("nine applications", x.run(8), TOO_LARGE);
        dueDeep(x, 10, 0);
        due("one application", x.run(0), HOLDS);
        dueDeep(x, 2, 0);
    }

    static void promise12ItFailsWithoutAnyDeepNode() {
        Probe x = new Probe();
        x.truth();
        x.next(0, FALSE);
        x.plain(0, TRUE);
        due("run(0)", x.run(0), FAILS);
        dueDeep(x, 0, 0);
        dueState(x, 1, 0);
        due("differs()", x.differs(), 0);
    }

    static void promise12AFunctionIsTheSameForTheSame() {
        Probe x = new Probe();
        int a = x.word();
        int b = x.word();
        x.truth();
        x.plain(2, TRUE);
        x.invariant(x.equal(a, b));
        x.next(2, x.equal(x.apply(0, a, NONE), x.apply(0, b, NONE)));
        due("of one argument", x.run(0), HOLDS);
        x.next(2, x.equal(x.apply(0, a, b), x.apply(0, b, a)));
        due("of two arguments", x.run(0), HOLDS);
        x.next(2, x.equal(x.apply(0, a, NONE), x.apply(0, a, a)));
        due("with one and with two they are different functions", x.run(0), FAILS);
        x.next(2, x.equal(x.apply(0, a, NONE), x.apply(7, a, NONE)));
        due("two functions", x.run(0), FAILS);
    }

    static void promise12AFunctionCanBeAnythingForOthers() {
        Probe x = new Probe();
        int a = x.word();
        int b = x.word();
        x.truth();
        x.plain(2, TRUE);
        x.invariant(x.not(x.equal(a, b)));
        x.next(2, x.equal(x.apply(0, a, NONE), x.apply(0, b, NONE)));
        due("not the same", x.run(0), FAILS);
        x.next(2, x.not(x.equal(x.apply(0, a, NONE), x.apply(0, b, NONE))));
        due("the same", x.run(0), FAILS);
        x.next(2, x.not(x.equal(x.apply(0, a, a), x.apply(0, a, b))));
        due("the same of two", x.run(0), FAILS);
        x.next(2, x.equal(x.apply(0, a, a), x.apply(0, a, b)));
        due("another second argument", x.run(0), FAILS);
        x.next(2, x.equal(x.apply(0, a, a), x.apply(0, b, a)));
        due("another first argument", x.run(0), FAILS);
    }

    public static void main(String[] args) {
        playAll(Promise12RunTest.class);
    }
}
