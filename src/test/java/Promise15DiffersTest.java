/** The edges of promise 15: when there is one, the lowest and the highest, and which one for some functions. */
final class Promise15DiffersTest extends Checks {
    static void promise15AheadOfAllQuestionsThereIsNone() {
        Probe x = new Probe();
        refused(x, "a new object", NO_STATE, x::differs);
        x.plain(0, x.not(x.truth()));
        refused(x, "nothing asked", NO_STATE, x::differs);
        refused(x, "a refused run", NO_ARGUMENT, () -> x.run(9));
        refused(x, "behind it", NO_STATE, x::differs);
    }

    static void promise15BehindAnAnswerThatIsNotZeroThereIsNone() {
        Probe x = new Probe();
        int[] truths = truths(x, 7);
        x.plain(0, x.not(truths[0]));
        due("fails", x.run(0), FAILS);
        due("differs()", x.differs(), 0);
        x.plain(0, truths[0]);
        due("holds", x.run(0), HOLDS);
        refused(x, "behind 1", NO_STATE, x::differs);
        x.plain(0, bothOfAll(x, truths));
        due("too large", x.run(0), TOO_LARGE);
        refused(x, "behind 2", NO_STATE, x::differs);
    }

    static void promise15BehindAKeptThatIsNotZeroThereIsNone() {
        Probe x = new Probe();
        int[] truths = truths(x, 7);
        x.invariant(truths[0]);
        x.plain(0, x.not(truths[0]));
        due("a run that fails", x.run(0), FAILS);
        due("a kept that holds", x.kept(0), HOLDS);
        refused(x, "behind 1", NO_STATE, x::differs);
        x.next(0, bothOfAll(x, truths));
        due("a kept that is too large", x.kept(0), TOO_LARGE);
        refused(x, "behind 2", NO_STATE, x::differs);
    }

    static void promise15ItIsNoneForAKept() {
        Probe x = new Probe();
        int t = x.truth();
        x.invariant(t);
        x.next(0, FALSE);
        x.plain(0, t);
        due("kept(0)", x.kept(0), FAILS);
        due("differs()", x.differs(), NONE);
        due("run(0)", x.run(0), FAILS);
        due("differs() behind a run", x.differs(), 0);
        due("kept(0) again", x.kept(0), FAILS);
        due("differs() again", x.differs(), NONE);
    }

    static void promise15TheFirstAndTheSixteenthElementCanBeTheOne() {
        for (int e = 0; e < 16; e += 15) {
            Probe x = new Probe();
            int[] truths = truths(x, 16);
            x.plain(e, x.not(truths[e]));
            due("run(0)", x.run(0), FAILS);
            due("differs()", x.differs(), e);
            Probe y = new Probe();
            int[] words = words(y, 16);
            y.plain(e, y.apply(0, words[e], NONE));
            due("run(0)", y.run(0), FAILS);
            due("differs(), of words", y.differs(), e);
        }
    }

    static void promise15OfSeveralItIsTheLowest() {
        Probe x = new Probe();
        int[] truths = truths(x, 6);
        for (int e = 5; e >= 0; e--) {
            x.plain(e, x.not(truths[e]));
            due("run(0)", x.run(0), FAILS);
            due("differs()", x.differs(), e);
        }
    }

    static void promise15ElementsThatAreNotSeenDoNotDiffer() {
        Probe x = new Probe();
        int[] truths = truths(x, 3);
        x.next(0, x.not(truths[0]));
        x.next(1, x.not(truths[1]));
        x.plain(1, x.not(truths[1]));
        x.plain(2, x.not(truths[2]));
        due("run(0)", x.run(0), FAILS);
        due("differs()", x.differs(), 2);
    }

    static void promise15ItDiffersInTheLeastState() {
        Probe x = new Probe();
        int s = x.truth();
        int t = x.truth();
        // Element 0 differs where s is 1, element 1 where it is 0.
        x.plain(0, FALSE);
        x.plain(1, x.choice(s, t, x.not(t)));
        due("run(0)", x.run(0), FAILS);
        due("differs()", x.differs(), 1);
        dueState(x, 1, 0, 0);
        x.invariant(s);
        due("where s is 1", x.run(0), FAILS);
        due("differs()", x.differs(), 0);
    }

    static void promise15ItDiffersInTheLeastStateOfWords() {
        Probe x = new Probe();
        int a = x.word();
        int b = x.word();
        truths(x, 2);
        int same = x.equal(a, b);
        // Element 2 differs where a and b are two, element 3 where they are one.
        x.next(2, TRUE);
        x.plain(2, same);
        x.next(3, FALSE);
        x.plain(3, same);
        due("run(0)", x.run(0), FAILS);
        due("differs()", x.differs(), 3);
        x.invariant(x.not(same));
        due("run(0)", x.run(0), FAILS);
        due("differs()", x.differs(), 2);
    }

    static void promise15ItDiffersForSomeFunctions() {
        Probe x = new Probe();
        int a = x.word();
        int b = x.word();
        x.word();
        int f = x.apply(0, a, NONE);
        // Where f(a) is a, element 1 differs; where it is not, element 0 does.
        x.plain(0, f);
        x.plain(1, x.choice(x.equal(f, a), x.apply(1, b, NONE), b));
        due("run(0)", x.run(0), FAILS);
        due("differs()", x.differs(), 0);
        Probe y = new Probe();
        int c = y.word();
        int d = y.word();
        int g = y.apply(0, c, NONE);
        // The other way round: where g(c) is not c, element 1 differs; where it is, element 0 does.
        y.plain(0, y.choice(y.equal(g, c), y.apply(1, c, NONE), c));
        y.plain(1, y.choice(y.equal(g, c), d, y.apply(1, d, NONE)));
        due("run(0)", y.run(0), FAILS);
        due("differs()", y.differs(), 0);
    }

    static void promise15TheInvariantsHoldForThoseFunctions() {
        Probe x = new Probe();
        int a = x.word();
        int b = x.word();
        int f = x.apply(0, a, NONE);
        x.plain(0, f);
        x.plain(1, x.choice(x.equal(f, a), x.apply(1, b, NONE), b));
        x.invariant(x.equal(f, a));
        due("run(0)", x.run(0), FAILS);
        due("differs()", x.differs(), 1);
    }

    static void promise15ItStaysWhateverIsTold() {
        Probe x = new Probe();
        int s = x.truth();
        int t = x.truth();
        x.plain(1, x.not(t));
        due("run(0)", x.run(0), FAILS);
        x.plain(0, x.not(s));
        x.plain(1, t);
        x.next(1, FALSE);
        x.invariant(FALSE);
        refused(x, "a refused run", NO_ARGUMENT, () -> x.run(-1));
        due("differs()", x.differs(), 1);
        due("differs() again", x.differs(), 1);
    }

    public static void main(String[] args) {
        playAll(Promise15DiffersTest.class);
    }
}
