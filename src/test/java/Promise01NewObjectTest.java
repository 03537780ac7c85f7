/** The edges of promise 1: what an object is of which nothing was told, and how long it is used. */
final class Promise01NewObjectTest extends Checks {
    static void promise1NoneIsMinusOne() {
        due("NONE", FlushProofs.NONE, -1);
    }

    static void promise1ThereAreThreeNodesAndNoElements() {
        Probe x = new Probe();
        dueCounts(x, 3, 0, 0, 0, 0, 0);
        dueNode(x, FALSE, 0, NONE, NONE, NONE);
        dueNode(x, TRUE, 1, NONE, NONE, NONE);
        dueNode(x, FETCH, 2, NONE, NONE, NONE);
        refusedOutside(x, "node", 3, n -> x.node(n, 0));
    }

    static void promise1ThereIsNoElementToTellOf() {
        Probe x = new Probe();
        refusedOutside(x, "next", 0, e -> x.next(e, FALSE));
        refusedOutside(x, "plain", 0, e -> x.plain(e, FALSE));
    }

    static void promise1ThereIsNoWordNode() {
        Probe x = new Probe();
        refusedEach(x, "apply", NO_ARGUMENT, a -> x.apply(0, a, NONE), FALSE, TRUE, FETCH);
        refusedEach(x, "equal", NO_ARGUMENT, a -> x.equal(a, a), FALSE, TRUE, FETCH);
        refused(x, "apply of node 3", NO_INDEX, () -> x.apply(0, 3, NONE));
    }

    static void promise1ThereIsNoInvariantToAskOf() {
        Probe x = new Probe();
        refusedOutside(x, "kept", 0, x::kept);
    }

    static void promise1ThereIsNoState() {
        dueNoState(new Probe());
    }

    static void promise1TheEquationOfNothingHolds() {
        for (int depth = 0; depth <= 8; depth++) {
            Probe x = new Probe();
            due("run(" + depth + ")", x.run(depth), HOLDS);
            dueCounts(x, 3, 0, 0, 0, 0, 0);
            dueNoState(x);
        }
    }

    static void promise1ConstantsCanBeInvariantsOfNothing() {
        Probe x = new Probe();
        due("TRUE", x.invariant(TRUE), 0);
        due("kept(0)", x.kept(0), HOLDS);
        due("FALSE", x.invariant(FALSE), 1);
        due("kept(1), which never holds ahead", x.kept(1), HOLDS);
        due("run(0)", x.run(0), HOLDS);
        dueDeep(x, 0, 0);
    }

    static void promise1TheFirstNodeToComeIsThree() {
        due("word()", new Probe().word(), 3);
        due("truth()", new Probe().truth(), 3);
        due("not(FETCH)", new Probe().not(FETCH), 3);
        due("choice", new Probe().choice(FETCH, FALSE, TRUE), 3);
    }

    static void promise1ObjectsHaveNothingInCommon() {
        Probe x = new Probe();
        x.next(0, x.not(x.truth()));
        x.plain(0, FALSE);
        x.invariant(TRUE);
        due("run(0)", x.run(0), FAILS);
        Probe y = new Probe();
        dueCounts(y, 3, 0, 0, 0, 0, 0);
        dueNoState(y);
        due("word() of another", y.word(), 3);
        due("its next", y.next(0, 3), false);
        due("its plain", y.plain(0, 3), false);
        due("its run(0)", y.run(0), HOLDS);
        dueCounts(x, 5, 1, 1, 1, 0, 1);
        due("differs() of the first", x.differs(), 0);
    }

    /** The document promises answers to 512 calls: a full object's last ones are as due. */
    static void promise1TheLastOf512CallsIsAnswered() {
        Probe x = new Probe();
        int w = x.word();
        x.truth();
        x.plain(0, x.apply(0, w, NONE));
        x.plain(1, FALSE);
        fill(x, w, 300);
        while (x.calls() < Probe.CALL_LIMIT - 5) {
            due("run(8)", x.run(8), FAILS);
        }
        due("the state", x.witness(0), 0);
        due("the lowest", x.differs(), 0);
        due("deep words", x.count(4), 2);
        refused511(x);
        due("call 512", x.run(0), FAILS);
        due("calls", x.calls(), Probe.CALL_LIMIT);
    }

    private static void refused511(Probe x) {
        Object got;
        try {
            got = x.word();
        } catch (RuntimeException e) {
            got = e.getClass();
        }
        due("call 511, a word", got, NO_ROOM);
    }

    public static void main(String[] args) {
        playAll(Promise01NewObjectTest.class);
    }
}
