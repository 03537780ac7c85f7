/** The edges of promise 14: when there is a state, of which elements, and that it is the least one. */
final class Promise14WitnessTest extends Checks {
    static void promise14AheadOfAllQuestionsThereIsNone() {
        Probe x = new Probe();
        x.plain(0, x.not(x.truth()));
        dueNoState(x);
    }

    static void promise14BehindARunThatHoldsThereIsNone() {
        Probe x = new Probe();
        int t = x.truth();
        x.plain(0, x.not(t));
        due("fails", x.run(0), FAILS);
        dueState(x, 1, 0);
        x.plain(0, t);
        due("holds", x.run(0), HOLDS);
        dueNoState(x);
    }

    static void promise14BehindARunThatIsTooLargeThereIsNone() {
        Probe x = new Probe();
        int[] truths = truths(x, 7);
        x.plain(0, x.not(truths[0]));
        due("fails", x.run(0), FAILS);
        dueState(x, 1, 0, 0, 0, 0, 0, 0, 0);
        x.plain(0, bothOfAll(x, truths));
        due("too large", x.run(0), TOO_LARGE);
        dueNoState(x);
    }

    static void promise14BehindAKeptThatHoldsOrIsTooLargeThereIsNone() {
        Probe x = new Probe();
        int[] truths = truths(x, 7);
        x.plain(0, x.not(truths[0]));
        x.invariant(truths[0]);
        due("a run that fails", x.run(0), FAILS);
        due("a kept that holds", x.kept(0), HOLDS);
        dueNoState(x);
        due("a run that fails again", x.run(0), FAILS);
        dueState(x, 1, 1, 0, 0, 0, 0, 0, 0);
        x.next(0, bothOfAll(x, truths));
        due("a kept that is too large", x.kept(0), TOO_LARGE);
        dueNoState(x);
    }

    static void promise14TheLatestQuestionCounts() {
        Probe x = new Probe();
        int t = x.truth();
        x.plain(0, t);
        x.next(0, FETCH);
        x.invariant(t);
        due("run(0)", x.run(0), HOLDS);
        due("kept(0)", x.kept(0), FAILS);
        dueState(x, 0, 1);
        x.next(0, FALSE);
        due("run(0)", x.run(0), FAILS);
        dueState(x, 1, 1);
    }

    static void promise14ThereAreElementsFromZeroToTheLast() {
        Probe x = new Probe();
        int t = x.truth();
        x.word();
        x.plain(0, x.not(t));
        x.invariant(t);
        due("run(0)", x.run(0), FAILS);
        refusedOutsideButNone(x, "of two", 2, x::witness);
        due("the first", x.witness(0), 1);
        due("the last", x.witness(1), 0);
    }

    static void promise14ThereAreSixteenElementsAtMost() {
        Probe x = new Probe();
        int[] truths = truths(x, 16);
        x.plain(15, x.not(truths[15]));
        x.invariant(truths[15]);
        due("run(0)", x.run(0), FAILS);
        due("the last", x.witness(15), 1);
        due("the last but one", x.witness(14), 0);
        refusedOutsideButNone(x, "of sixteen", 16, x::witness);
    }

    static void promise14ElementsAreThoseThatThereWereThen() {
        Probe x = new Probe();
        int t = x.truth();
        x.plain(0, x.not(t));
        due("run(0)", x.run(0), FAILS);
        x.word();
        refused(x, "one that came behind the run", NO_INDEX, () -> x.witness(1));
        due("one that was there", x.witness(0), 0);
        due("run(0) again", x.run(0), FAILS);
        due("now it is there", x.witness(1), 0);
        x.invariant(t);
        x.next(0, FALSE);
        due("kept(0)", x.kept(0), FAILS);
        x.truth();
        refused(x, "one that came behind the kept", NO_INDEX, () -> x.witness(2));
    }

    static void promise14NoStateGoesAheadOfNoElement() {
        Probe x = new Probe();
        refusedEach(x, "a new object", NO_STATE, x::witness, NONE, 0, 1, -2, LOWEST, HIGHEST);
        x.truth();
        due("run(0)", x.run(0), HOLDS);
        refusedEach(x, "an answer that is not 0", NO_STATE, x::witness, NONE, 0, 1, -2, LOWEST, HIGHEST);
    }

    static void promise14OfNoneItIsFetchsWhichIsOneForARun() {
        Probe x = new Probe();
        int t = x.truth();
        x.plain(0, x.not(t));
        for (int depth = 0; depth <= 8; depth++) {
            due("run(" + depth + ")", x.run(depth), FAILS);
            due("FETCH", x.witness(NONE), 1);
        }
    }

    static void promise14OfNoneItIsFetchsInTheLeastStateForAKept() {
        Probe x = new Probe();
        int t = x.truth();
        x.invariant(t);
        x.next(0, x.not(FETCH));
        due("broken with a fetch", x.kept(0), FAILS);
        due("FETCH", x.witness(NONE), 1);
        x.next(0, FETCH);
        due("broken without a fetch", x.kept(0), FAILS);
        due("FETCH", x.witness(NONE), 0);
        x.next(0, x.both(x.not(t), FETCH));
        due("broken either way", x.kept(0), FAILS);
        due("FETCH", x.witness(NONE), 0);
        x.next(0, FALSE);
        due("broken, and FETCH is not deep", x.kept(0), FAILS);
        due("FETCH", x.witness(NONE), 0);
        dueDeep(x, 0, 1);
    }

    static void promise14TheStateStaysWhateverIsTold() {
        Probe x = new Probe();
        int t = x.truth();
        int a = x.word();
        int b = x.word();
        x.plain(0, x.not(t));
        x.invariant(t);
        x.invariant(x.not(x.equal(a, b)));
        due("run(0)", x.run(0), FAILS);
        x.plain(0, t);
        x.next(0, FALSE);
        x.next(1, b);
        x.invariant(x.equal(a, b));
        x.not(t);
        x.truth();
        refused(x, "a refused run", NO_ARGUMENT, () -> x.run(9));
        refused(x, "a refused kept", NO_INDEX, () -> x.kept(3));
        dueState(x, 1, 1, 0, 1);
        due("differs()", x.differs(), 0);
        dueDeep(x, 2, 1);
    }

    static void promise14TruthsAreZeroOrOne() {
        Probe x = new Probe();
        int s = x.truth();
        int t = x.truth();
        x.plain(0, x.choice(x.both(x.not(s), t), TRUE, s));
        due("run(0)", x.run(0), FAILS);
        dueState(x, 1, 0, 1);
        x.plain(0, x.choice(x.both(s, x.not(t)), FALSE, s));
        due("run(0)", x.run(0), FAILS);
        dueState(x, 1, 1, 0);
    }

    /** The state in which all of six truths are 1 is the last of 64. */
    static void promise14TheLastStateOfSixTruthsIsFound() {
        Probe x = new Probe();
        int[] truths = truths(x, 6);
        int all = bothOfAll(x, truths);
        x.plain(0, x.choice(all, FALSE, truths[0]));
        due("run(0)", x.run(0), FAILS);
        dueState(x, 1, 1, 1, 1, 1, 1, 1);
        x.plain(0, x.choice(all, truths[0], truths[0]));
        due("none", x.run(0), HOLDS);
    }

    static void promise14TruthsGoInTheOrderOfTheirNumbers() {
        Probe x = new Probe();
        int[] truths = truths(x, 3);
        x.truth();
        x.next(3, FALSE);
        // Fails where two of three are 1.
        int two = x.choice(truths[0], x.not(x.both(x.not(truths[1]), x.not(truths[2]))), x.both(truths[1], truths[2]));
        x.plain(3, two);
        due("run(0)", x.run(0), FAILS);
        dueState(x, 1, 0, 1, 1, 0);
        x.invariant(x.not(x.both(truths[1], truths[2])));
        due("without that one", x.run(0), FAILS);
        dueState(x, 1, 1, 0, 1, 0);
        x.invariant(x.not(truths[2]));
        due("without that one either", x.run(0), FAILS);
        dueState(x, 1, 1, 1, 0, 0);
    }

    static void promise14TruthsGoAheadOfWordsOfLowerNumbers() {
        Probe x = new Probe();
        int a = x.word();
        int b = x.word();
        int t = x.truth();
        x.truth();
        x.next(3, TRUE);
        // Fails where t is 1, or a and b are two.
        x.plain(3, x.both(x.not(t), x.equal(a, b)));
        due("run(0)", x.run(0), FAILS);
        dueState(x, 1, 0, 1, 0, 0);
        x.invariant(x.equal(a, b));
        due("with one number alone", x.run(0), FAILS);
        dueState(x, 1, 0, 0, 1, 0);
    }

    static void promise14FetchGoesBehindTruthsAndAheadOfWords() {
        Probe x = new Probe();
        int a = x.word();
        int b = x.word();
        int t = x.truth();
        x.truth();
        int kept = x.invariant(6);
        // Broken with a fetch, or where t is 1.
        x.next(3, x.not(x.choice(FETCH, TRUE, t)));
        due("FETCH behind a truth", x.kept(kept), FAILS);
        dueState(x, 1, 0, 0, 0, 1);
        // Broken with a fetch, or where a and b are two.
        x.next(3, x.both(x.not(FETCH), x.equal(a, b)));
        due("FETCH ahead of a word", x.kept(kept), FAILS);
        dueState(x, 0, 0, 1, 0, 1);
    }

    static void promise14WordsGoInTheOrderOfTheirNumbers() {
        Probe x = new Probe();
        int a = x.word();
        int b = x.word();
        int c = x.word();
        x.truth();
        x.next(3, TRUE);
        x.plain(3, x.both(x.equal(a, b), x.equal(b, c)));
        due("not all the same", x.run(0), FAILS);
        dueState(x, 1, 0, 0, 1, 0);
        x.invariant(x.not(x.equal(a, b)));
        due("the second another", x.run(0), FAILS);
        dueState(x, 1, 0, 1, 0, 0);
        x.invariant(x.not(x.equal(a, c)));
        due("the third another, too", x.run(0), FAILS);
        dueState(x, 1, 0, 1, 1, 0);
        x.invariant(x.not(x.equal(b, c)));
        due("all others", x.run(0), FAILS);
        dueState(x, 1, 0, 1, 2, 0);
    }

    static void promise14SevenWordsCanBeSevenNumbers() {
        Probe x = new Probe();
        int[] words = words(x, 7);
        x.truth();
        x.next(7, FALSE);
        x.plain(7, allDistinct(x, words));
        due("run(0)", x.run(0), FAILS);
        dueState(x, 1, 0, 1, 2, 3, 4, 5, 6, 0);
    }

    static void promise14WhatIsNotDeepIsZeroAndDoesNotCountForOthers() {
        Probe x = new Probe();
        int[] words = words(x, 5);
        int[] truths = truths(x, 3);
        x.next(7, TRUE);
        x.plain(7, x.choice(truths[1], x.equal(words[1], words[3]), TRUE));
        due("run(0)", x.run(0), FAILS);
        dueDeep(x, 2, 1);
        dueState(x, 1, 0, 0, 0, 1, 0, 0, 1, 0);
    }

    static void promise14WhatIsNoLongerDeepIsZero() {
        Probe x = new Probe();
        int t = x.truth();
        int a = x.word();
        int b = x.word();
        x.truth();
        x.next(3, FALSE);
        x.plain(3, x.both(t, x.not(x.equal(a, b))));
        due("run(0)", x.run(0), FAILS);
        dueState(x, 1, 1, 0, 1, 0);
        x.plain(3, TRUE);
        due("run(0)", x.run(0), FAILS);
        dueDeep(x, 0, 0);
        dueState(x, 1, 0, 0, 0, 0);
    }

    /** A lower element that differs in a greater state does not make it the least. */
    static void promise14TheLeastStateGoesAheadOfTheLowestElement() {
        Probe x = new Probe();
        int a = x.word();
        int b = x.word();
        truths(x, 2);
        int same = x.equal(a, b);
        x.next(2, TRUE);
        x.plain(2, same);
        x.next(3, FALSE);
        x.plain(3, same);
        due("run(0)", x.run(0), FAILS);
        dueState(x, 1, 0, 0, 0, 0);
        x.invariant(x.not(same));
        due("run(0)", x.run(0), FAILS);
        dueState(x, 1, 0, 1, 0, 0);
    }

    static void promise14WhatIsDeepAndMakesNoDifferenceIsAsLowAsItCanBe() {
        Probe x = new Probe();
        int[] words = words(x, 3);
        int t = x.truth();
        x.truth();
        // These are the same both ways: they are deep, and show nothing.
        x.plain(0, words[0]);
        x.plain(3, t);
        x.next(4, TRUE);
        x.plain(4, x.equal(words[1], words[2]));
        due("run(0)", x.run(0), FAILS);
        dueDeep(x, 3, 1);
        dueState(x, 1, 0, 0, 1, 0, 0);
        due("differs()", x.differs(), 4);
    }

    /** Numbers that functions answer are no numbers that were there before. */
    static void promise14ApplicationsDoNotCountAmongWords() {
        Probe x = new Probe();
        int a = x.word();
        int f = x.apply(0, a, NONE);
        int b = x.word();
        x.truth();
        x.next(2, FALSE);
        x.plain(2, allDistinct(x, a, f, b));
        due("run(0)", x.run(0), FAILS);
        dueState(x, 1, 0, 1, 0);
        x.plain(2, x.both(x.not(x.equal(a, f)), x.equal(b, f)));
        due("b is what f answers", x.run(0), FAILS);
        dueState(x, 1, 0, 1, 0);
    }

    static void promise14ItFailsForSomeFunctions() {
        Probe x = new Probe();
        int a = x.word();
        int b = x.word();
        int fa = x.apply(0, a, NONE);
        int fb = x.apply(0, b, NONE);
        x.truth();
        x.next(2, TRUE);
        x.plain(2, x.equal(fa, fb));
        due("run(0)", x.run(0), FAILS);
        dueState(x, 1, 0, 1, 0);
        x.plain(2, x.not(x.equal(fa, fb)));
        due("run(0)", x.run(0), FAILS);
        dueState(x, 1, 0, 0, 0);
    }

    public static void main(String[] args) {
        playAll(Promise14WitnessTest.class);
    }
}
