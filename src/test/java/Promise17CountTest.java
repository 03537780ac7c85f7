/** The edges of promise 17: what there is to count, at first, at most, and behind refused calls. */
final class Promise17CountTest extends Checks {
    static void promise17AnotherWhatIsNone() {
        Probe x = new Probe();
        for (int what : new int[] {-1, 6, 7, LOWEST, HIGHEST}) {
            due("count(" + what + ")", x.count(what), NONE);
        }
        x.plain(0, x.word());
        x.run(0);
        for (int what : new int[] {-1, 6, 7, LOWEST, HIGHEST}) {
            due("count(" + what + ") behind a run", x.count(what), NONE);
        }
    }

    static void promise17AtFirstThereAreThreeNodes() {
        dueCounts(new Probe(), 3, 0, 0, 0, 0, 0, NONE);
    }

    static void promise17AtMostThereAre300Nodes() {
        Probe x = new Probe();
        int a = x.word();
        fill(x, a, 299);
        due("ahead of the last", x.count(0), 299);
        x.apply(0, a, a);
        due("all", x.count(0), 300);
        refused(x, "one more", NO_ROOM, () -> x.apply(1, a, a));
        due("behind it", x.count(0), 300);
    }

    static void promise17NodesThatAreThereCountOnce() {
        Probe x = new Probe();
        int a = x.word();
        int b = x.word();
        int t = x.truth();
        x.apply(0, a, b);
        x.apply(0, a, b);
        x.equal(a, b);
        x.equal(b, a);
        x.equal(a, a);
        x.not(x.not(t));
        x.not(t);
        x.both(t, FETCH);
        x.both(FETCH, t);
        x.both(t, TRUE);
        x.choice(t, a, b);
        x.choice(t, a, b);
        x.choice(TRUE, a, b);
        due("nodes", x.count(0), 11);
    }

    static void promise17ElementsAreCountedTogetherUpToSixteen() {
        Probe x = new Probe();
        for (int e = 0; e < 16; e++) {
            due("elements", x.count(1), e);
            if (e % 2 == 0) {
                x.word();
            } else {
                x.truth();
            }
        }
        due("elements", x.count(1), 16);
        refused(x, "one more", NO_ROOM, x::truth);
        due("behind it", x.count(1), 16);
    }

    static void promise17SeenOnesAreCountedOnceUpToSixteen() {
        Probe x = new Probe();
        int[] words = words(x, 16);
        for (int e = 15; e >= 0; e--) {
            x.next(e, words[0]);
            due("a next node makes none seen", x.count(2), 15 - e);
            x.plain(e, words[e]);
            x.plain(e, words[0]);
            due("seen", x.count(2), 16 - e);
        }
    }

    static void promise17InvariantsAreCountedUpToEight() {
        Probe x = new Probe();
        for (int i = 0; i < 8; i++) {
            due("invariants", x.count(3), i);
            x.invariant(TRUE);
        }
        due("invariants", x.count(3), 8);
        refused(x, "one more", NO_STATE, () -> x.invariant(TRUE));
        due("behind it", x.count(3), 8);
    }

    static void promise17DeepNodesAreThoseOfTheLatestQuestion() {
        Probe x = new Probe();
        int a = x.word();
        int t = x.truth();
        int f = x.apply(0, a, NONE);
        x.plain(0, x.choice(t, f, a));
        dueDeep(x, 0, 0);
        due("run(0)", x.run(0), FAILS);
        dueDeep(x, 2, 1);
        x.invariant(x.equal(a, f));
        dueDeep(x, 2, 1);
        x.next(0, x.choice(FETCH, a, f));
        due("kept(0)", x.kept(0), HOLDS);
        dueDeep(x, 3, 1);
        refused(x, "a refused run", NO_ARGUMENT, () -> x.run(9));
        refused(x, "a refused kept", NO_INDEX, () -> x.kept(1));
        dueDeep(x, 3, 1);
    }

    static void promise17DeepNodesAreZeroWhereTheQuestionHasNone() {
        Probe x = new Probe();
        int t = x.truth();
        x.plain(0, x.not(t));
        due("run(0)", x.run(0), FAILS);
        dueDeep(x, 0, 1);
        x.next(0, TRUE);
        x.plain(0, TRUE);
        due("run(0)", x.run(0), HOLDS);
        dueDeep(x, 0, 0);
    }

    static void promise17AQuestionThatIsTooLargeIsCountedInFull() {
        Probe x = new Probe();
        int[] words = words(x, 8);
        int[] truths = truths(x, 8);
        for (int e = 0; e < 8; e++) {
            x.plain(e, x.apply(e, words[e], NONE));
            x.plain(8 + e, truths[e]);
        }
        due("run(0)", x.run(0), TOO_LARGE);
        dueDeep(x, 16, 8);
        x.invariant(x.equal(words[0], x.apply(0, words[1], words[2])));
        due("run(0) with an invariant", x.run(0), TOO_LARGE);
        dueDeep(x, 17, 8);
        x.invariant(bothOfAll(x, truths));
        x.next(8, FETCH);
        due("kept(1)", x.kept(1), TOO_LARGE);
        dueDeep(x, 4, 9);
    }

    /** Each of nine steps applies 296 functions, one behind the other. */
    static void promise17MoreDeepNodesThanTheFaceHasAreCounted() {
        Probe x = new Probe();
        int a = x.word();
        int last = fill(x, a, 300);
        x.next(0, last);
        x.plain(0, last);
        due("run(8)", x.run(8), TOO_LARGE);
        dueDeep(x, 1 + 9 * 296, 0);
        due("run(0)", x.run(0), TOO_LARGE);
        dueDeep(x, 1 + 296, 0);
    }

    /** Each of nine steps makes 147 choices of the same two and a third one that is always another. */
    static void promise17ThousandsOfChoicesAreCountedEachOnce() {
        Probe x = new Probe();
        int t = x.truth();
        int a = x.word();
        int last = x.word();
        for (int i = 0; i < 147; i++) {
            last = x.choice(t, a, x.apply(0, last, NONE));
        }
        due("the last node", last, 299);
        x.next(2, last);
        x.plain(2, last);
        for (int depth = 0; depth <= 8; depth++) {
            due("run(" + depth + ")", x.run(depth), TOO_LARGE);
            dueDeep(x, 2 + (depth + 1) * 147, 1);
        }
    }

    public static void main(String[] args) {
        playAll(Promise17CountTest.class);
    }
}
