import java.util.Arrays;

/**
 * Cores proved by flushing: a step with a fetch and then emptying comes to the same as emptying and then a plain
 * step, or the least state that shows that it does not.
 */
public final class FlushProofs {
    public static final int NONE = -1;

    private static final int NODE_LIMIT = 300;
    private static final int ELEMENT_LIMIT = 16;
    private static final int INVARIANT_LIMIT = 8;
    private static final int DEPTH_LIMIT = 8;
    private static final int FUNCTION_COUNT = 8;
    private static final int DEEP_WORD_LIMIT = 7;
    private static final int DEEP_TRUTH_LIMIT = 6;

    // Kinds as node() answers them; the first three are the numbers of their only nodes, too.
    private static final int FALSE = 0;
    private static final int TRUE = 1;
    private static final int FETCH = 2;
    private static final int WORD_ELEMENT = 3;
    private static final int TRUTH_ELEMENT = 4;
    private static final int APPLICATION = 5;
    private static final int EQUALITY = 6;
    private static final int NOT = 7;
    private static final int BOTH = 8;
    private static final int CHOICE = 9;

    private static final int FAILS = 0;
    private static final int HOLDS = 1;
    private static final int TOO_LARGE = 2;

    // A question makes every node of the face anew at most once as it is, once for each step of both ways (with the
    // one with a fetch and the plain one), and two nodes for each seen element to tell where the ways differ.
    private static final int WORK_LIMIT = NODE_LIMIT * (2 * DEPTH_LIMIT + 3) + 2 * ELEMENT_LIMIT;
    // How many hashes the stores have: powers of two.
    private static final int FACE_HASHES = 256;
    private static final int WORK_HASHES = 2048;

    // Column b has, for each of 64 states, bit b of that state's number.
    private static final long[] COLUMNS = {
        0xAAAAAAAAAAAAAAAAL, 0xCCCCCCCCCCCCCCCCL, 0xF0F0F0F0F0F0F0F0L,
        0xFF00FF00FF00FF00L, 0xFFFF0000FFFF0000L, 0xFFFFFFFF00000000L
    };
    private static final int NO_STATE = 64;

    private final Core core;
    private final Outcome outcome;
    private final Prover prover;

    public FlushProofs() {
        core = new Core();
        outcome = new Outcome();
        prover = new Prover();
    }

    public int word() throws UnsupportedOperationException {
        requireRoomForElement();
        return core.addElement(WORD_ELEMENT);
    }

    public int truth() throws UnsupportedOperationException {
        requireRoomForElement();
        return core.addElement(TRUTH_ELEMENT);
    }

    public int apply(int f, int a, int b)
            throws IndexOutOfBoundsException, IllegalArgumentException, UnsupportedOperationException {
        requireNode(a);
        if (b != NONE) {
            requireNode(b);
        }
        if (f < 0 || f >= FUNCTION_COUNT) {
            throw new IllegalArgumentException("no such function");
        }
        requireWord(a);
        if (b != NONE) {
            requireWord(b);
        }
        return landed(core.nodes.makeApplication(f, a, b));
    }

    public int equal(int a, int b)
            throws IndexOutOfBoundsException, IllegalArgumentException, UnsupportedOperationException {
        requireNode(a);
        requireNode(b);
        requireWord(a);
        requireWord(b);
        return landed(core.nodes.makeEquality(a, b));
    }

    public int not(int a) throws IndexOutOfBoundsException, IllegalArgumentException, UnsupportedOperationException {
        requireNode(a);
        requireTruth(a);
        return landed(core.nodes.makeNot(a));
    }

    public int both(int a, int b)
            throws IndexOutOfBoundsException, IllegalArgumentException, UnsupportedOperationException {
        requireNode(a);
        requireNode(b);
        requireTruth(a);
        requireTruth(b);
        return landed(core.nodes.makeBoth(a, b));
    }

    public int choice(int c, int a, int b)
            throws IndexOutOfBoundsException, IllegalArgumentException, UnsupportedOperationException {
        requireNode(c);
        requireNode(a);
        requireNode(b);
        requireTruth(c);
        requireSameSort(a, b);
        return landed(core.nodes.makeChoice(c, a, b));
    }

    public boolean next(int element, int node) throws IndexOutOfBoundsException, IllegalArgumentException {
        requireElement(element);
        requireNode(node);
        requireSameSort(core.elementNodes[element], node);
        return core.tellNext(element, node);
    }

    public boolean plain(int element, int node) throws IndexOutOfBoundsException, IllegalArgumentException {
        requireElement(element);
        requireNode(node);
        requireSameSort(core.elementNodes[element], node);
        requireNoFetch(node);
        return core.tellPlain(element, node);
    }

    public int invariant(int node)
            throws IndexOutOfBoundsException, IllegalArgumentException, IllegalStateException {
        requireNode(node);
        requireTruth(node);
        requireNoFetch(node);
        if (core.invariantCount >= INVARIANT_LIMIT) {
            throw new IllegalStateException("there are eight invariants");
        }
        return core.addInvariant(node);
    }

    public int run(int depth) throws IllegalArgumentException {
        if (depth < 0 || depth > DEPTH_LIMIT) {
            throw new IllegalArgumentException("no such depth");
        }
        prover.askEquation(core, depth, outcome);
        prover.decide(outcome);
        return outcome.answer;
    }

    public int kept(int invariant) throws IndexOutOfBoundsException {
        if (invariant < 0 || invariant >= core.invariantCount) {
            throw new IndexOutOfBoundsException("no such invariant");
        }
        prover.askKept(core, invariant, outcome);
        prover.decide(outcome);
        return outcome.answer;
    }

    public int witness(int element) throws IllegalStateException, IndexOutOfBoundsException {
        requireFailure();
        if (element == NONE) {
            return outcome.fetch;
        }
        if (element < 0 || element >= outcome.elementCount) {
            throw new IndexOutOfBoundsException("no such element then");
        }
        return outcome.values[element];
    }

    public int differs() throws IllegalStateException {
        requireFailure();
        return outcome.differing;
    }

    public int node(int node, int what) throws IndexOutOfBoundsException {
        requireNode(node);
        switch (what) {
            case 0:
                return core.nodes.kinds[node];
            case 1:
                return core.nodes.firsts[node];
            case 2:
                return core.nodes.seconds[node];
            case 3:
                return core.nodes.thirds[node];
            default:
                throw new IndexOutOfBoundsException("a node has a kind and three parts");
        }
    }

    public int count(int what) {
        switch (what) {
            case 0:
                return core.nodes.used;
            case 1:
                return core.elementCount;
            case 2:
                return core.seenCount;
            case 3:
                return core.invariantCount;
            case 4:
                return outcome.deepWords;
            case 5:
                return outcome.deepTruths;
            default:
                return NONE;
        }
    }

    private void requireRoomForElement() {
        if (core.elementCount >= ELEMENT_LIMIT || core.nodes.used >= NODE_LIMIT) {
            throw new UnsupportedOperationException("no room for an element");
        }
    }

    private void requireNode(int at) {
        if (!core.nodes.has(at)) {
            throw new IndexOutOfBoundsException("no such node");
        }
    }

    private void requireElement(int element) {
        if (element < 0 || element >= core.elementCount) {
            throw new IndexOutOfBoundsException("no such element");
        }
    }

    private void requireWord(int at) {
        if (!core.nodes.isWord(at)) {
            throw new IllegalArgumentException("a word node is wanted");
        }
    }

    private void requireTruth(int at) {
        if (core.nodes.isWord(at)) {
            throw new IllegalArgumentException("a truth node is wanted");
        }
    }

    private void requireSameSort(int a, int b) {
        if (core.nodes.isWord(a) != core.nodes.isWord(b)) {
            throw new IllegalArgumentException("nodes of one sort are wanted");
        }
    }

    private void requireNoFetch(int at) {
        if (core.hasFetch(at)) {
            throw new IllegalArgumentException("FETCH must not be in it");
        }
    }

    private void requireFailure() {
        if (outcome.answer != FAILS) {
            throw new IllegalStateException("the latest question did not fail");
        }
    }

    private static int landed(int made) {
        if (made == NONE) {
            throw new UnsupportedOperationException("there are 300 nodes");
        }
        return made;
    }

    /** Nodes, each once; a node's parts come before it. */
    private static final class Nodes {
        private final int[] kinds;
        private final int[] firsts;
        private final int[] seconds;
        private final int[] thirds;
        private final boolean[] words;
        // Of each hash the latest node with it, plus one (0: none), and of each node the one before it.
        private final int[] heads;
        private final int[] links;
        private int used;

        Nodes(int room, int hashes) {
            kinds = new int[room];
            firsts = new int[room];
            seconds = new int[room];
            thirds = new int[room];
            words = new boolean[room];
            links = new int[room];
            heads = new int[hashes];
        }

        /** Leaves the three constants alone. */
        void reset() {
            Arrays.fill(heads, 0);
            used = 0;
            put(FALSE, NONE, NONE, NONE);
            put(TRUE, NONE, NONE, NONE);
            put(FETCH, NONE, NONE, NONE);
        }

        boolean has(int at) {
            return at >= 0 && at < used;
        }

        boolean isWord(int at) {
            return at >= 0 && at < used && words[at];
        }

        int makeElement(int kind, int number) {
            return put(kind, number, NONE, NONE);
        }

        int makeApplication(int f, int a, int b) {
            return put(APPLICATION, a, b, f);
        }

        int makeEquality(int a, int b) {
            if (a == b) {
                return TRUE;
            }
            return put(EQUALITY, Math.min(a, b), Math.max(a, b), NONE);
        }

        int makeNot(int a) {
            if (a == TRUE) {
                return FALSE;
            }
            if (a == FALSE) {
                return TRUE;
            }
            if (has(a) && kinds[a] == NOT) {
                return firsts[a];
            }
            return put(NOT, a, NONE, NONE);
        }

        int makeBoth(int a, int b) {
            if (a == FALSE || b == FALSE) {
                return FALSE;
            }
            if (a == TRUE || a == b) {
                return b;
            }
            if (b == TRUE) {
                return a;
            }
            return put(BOTH, Math.min(a, b), Math.max(a, b), NONE);
        }

        int makeChoice(int c, int a, int b) {
            if (c == TRUE || a == b) {
                return a;
            }
            if (c == FALSE) {
                return b;
            }
            return put(CHOICE, c, a, b);
        }

        /** 1 where two truth nodes, or two word nodes, are not the same. */
        int makeDifference(int a, int b) {
            if (a == b) {
                return FALSE;
            }
            if (isWord(a)) {
                return makeNot(makeEquality(a, b));
            }
            return makeChoice(a, makeNot(b), b);
        }

        /** Makes another store's nodes here, of their parts' images; constants and elements have images ahead. */
        void remakeAll(Nodes other, int[] images) {
            for (int at = 0; at < other.used && at < images.length; at++) {
                int first = imageOf(images, other.firsts[at]);
                int second = imageOf(images, other.seconds[at]);
                switch (other.kinds[at]) {
                    case APPLICATION:
                        images[at] = makeApplication(other.thirds[at], first, second);
                        break;
                    case EQUALITY:
                        images[at] = makeEquality(first, second);
                        break;
                    case NOT:
                        images[at] = makeNot(first);
                        break;
                    case BOTH:
                        images[at] = makeBoth(first, second);
                        break;
                    case CHOICE:
                        images[at] = makeChoice(first, second, imageOf(images, other.thirds[at]));
                        break;
                    default:
                        break;
                }
            }
        }

        void unmark(boolean[] marks) {
            for (int at = 0; at < used && at < marks.length; at++) {
                marks[at] = false;
            }
        }

        /** Marks the parts of all that is marked. */
        void spread(boolean[] marks) {
            for (int at = used - 1; at >= 0; at--) {
                if (marks[at] && kinds[at] >= APPLICATION) {
                    mark(marks, firsts[at]);
                    mark(marks, seconds[at]);
                    if (kinds[at] == CHOICE) {
                        mark(marks, thirds[at]);
                    }
                }
            }
        }

        void mark(boolean[] marks, int at) {
            if (has(at) && at < marks.length) {
                marks[at] = true;
            }
        }

        private static int imageOf(int[] images, int at) {
            return at >= 0 && at < images.length ? images[at] : NONE;
        }

        /** The node of this kind with these parts; NONE, when it is not there and there is no room for it. */
        private int put(int kind, int first, int second, int third) {
            int mixed = ((kind * 31 + first) * 131 + second) * 523 + third;
            int hash = (mixed ^ mixed >>> 13) & (heads.length - 1);
            int at = heads[hash] - 1;
            for (int left = used; left > 0 && at >= 0; left--) {
                if (kinds[at] == kind && firsts[at] == first && seconds[at] == second && thirds[at] == third) {
                    return at;
                }
                at = links[at];
            }
            if (used >= kinds.length) {
                return NONE;
            }
            at = used;
            used++;
            kinds[at] = kind;
            firsts[at] = first;
            seconds[at] = second;
            thirds[at] = third;
            links[at] = heads[hash] - 1;
            heads[hash] = at + 1;
            words[at] = kind == WORD_ELEMENT || kind == APPLICATION || (kind == CHOICE && isWord(second));
            return at;
        }
    }

    /** What was told: the nodes of the face, elements with their next and plain nodes, and invariants. */
    private static final class Core {
        private final Nodes nodes;
        private final int[] elementNodes;
        private final int[] nextNodes;
        private final int[] plainNodes;
        private final int[] invariants;
        private final boolean[] marks;
        private int elementCount;
        private int seenCount;
        private int invariantCount;

        Core() {
            nodes = new Nodes(NODE_LIMIT, FACE_HASHES);
            nodes.reset();
            elementNodes = new int[ELEMENT_LIMIT];
            nextNodes = new int[ELEMENT_LIMIT];
            plainNodes = new int[ELEMENT_LIMIT];
            invariants = new int[INVARIANT_LIMIT];
            marks = new boolean[NODE_LIMIT];
        }

        boolean hasFetch(int at) {
            nodes.unmark(marks);
            nodes.mark(marks, at);
            nodes.spread(marks);
            return marks[FETCH];
        }

        int addElement(int kind) {
            int made = nodes.makeElement(kind, elementCount);
            elementNodes[elementCount] = made;
            nextNodes[elementCount] = NONE;
            plainNodes[elementCount] = NONE;
            elementCount++;
            return made;
        }

        boolean tellNext(int element, int at) {
            boolean had = nextNodes[element] != NONE;
            nextNodes[element] = at;
            return had;
        }

        boolean tellPlain(int element, int at) {
            boolean had = plainNodes[element] != NONE;
            plainNodes[element] = at;
            if (!had) {
                seenCount++;
            }
            return had;
        }

        int addInvariant(int at) {
            invariants[invariantCount] = at;
            invariantCount++;
            return invariantCount - 1;
        }
    }

    /** What the latest question came to. */
    private static final class Outcome {
        private final int[] values;
        private int answer;
        private int elementCount;
        private int fetch;
        private int differing;
        private int deepWords;
        private int deepTruths;

        Outcome() {
            values = new int[ELEMENT_LIMIT];
            answer = NONE;
        }

        /** A question with no state told yet: all that is not deep stays as it is here. */
        void begin(int elements, int fetchOfOthers) {
            Arrays.fill(values, 0);
            elementCount = elements;
            fetch = fetchOfOthers;
            deepWords = 0;
            deepTruths = 0;
        }

        boolean isTooLarge() {
            return deepWords > DEEP_WORD_LIMIT || deepTruths > DEEP_TRUTH_LIMIT;
        }
    }

    /** Invariants as nodes, and claims: nodes of which one is 1 in each state that fails, lowest element first. */
    private static final class Question {
        private final int[] invariants;
        private final int[] claims;
        private final int[] claimElements;
        private int invariantCount;
        private int claimCount;

        Question() {
            invariants = new int[INVARIANT_LIMIT];
            claims = new int[ELEMENT_LIMIT];
            claimElements = new int[ELEMENT_LIMIT];
        }

        void begin() {
            invariantCount = 0;
            claimCount = 0;
        }

        void addInvariant(int at) {
            if (invariantCount < invariants.length) {
                invariants[invariantCount] = at;
                invariantCount++;
            }
        }

        /** A claim that is FALSE fails nowhere, and is left out. */
        void addClaim(int at, int element) {
            if (at > FALSE && claimCount < claims.length) {
                claims[claimCount] = at;
                claimElements[claimCount] = element;
                claimCount++;
            }
        }
    }

    /** Takes the core's steps on nodes, and asks whether what comes of them holds. */
    private static final class Prover {
        private final Nodes work;
        private final Question question;
        private final Search search;
        private final boolean[] marks;
        private final int[] images;
        private final int[] oneWay;
        private final int[] otherWay;

        Prover() {
            work = new Nodes(WORK_LIMIT, WORK_HASHES);
            question = new Question();
            search = new Search(work, question);
            marks = new boolean[WORK_LIMIT];
            images = new int[NODE_LIMIT];
            oneWay = new int[ELEMENT_LIMIT];
            otherWay = new int[ELEMENT_LIMIT];
        }

        void askEquation(Core core, int depth, Outcome outcome) {
            outcome.begin(core.elementCount, 1);
            begin(core);
            step(core, oneWay, TRUE);
            for (int i = 0; i < depth; i++) {
                step(core, oneWay, FALSE);
                step(core, otherWay, FALSE);
            }
            plainStep(core, otherWay);
            markInvariants();
            for (int e = 0; e < core.elementCount; e++) {
                if (core.plainNodes[e] != NONE) {
                    work.mark(marks, oneWay[e]);
                    work.mark(marks, otherWay[e]);
                }
            }
            countDeep(outcome);
            for (int e = 0; e < core.elementCount; e++) {
                if (core.plainNodes[e] != NONE) {
                    question.addClaim(work.makeDifference(oneWay[e], otherWay[e]), e);
                }
            }
        }

        void askKept(Core core, int invariant, Outcome outcome) {
            outcome.begin(core.elementCount, 0);
            begin(core);
            step(core, oneWay, FETCH);
            putIn(core, oneWay, FETCH);
            work.remakeAll(core.nodes, images);
            int behind = images[core.invariants[invariant]];
            markInvariants();
            work.mark(marks, behind);
            countDeep(outcome);
            question.addClaim(work.makeNot(behind), NONE);
        }

        /** Both ways start from the elements as they are, of which the invariants have to hold. */
        private void begin(Core core) {
            work.reset();
            question.begin();
            for (int e = 0; e < core.elementCount; e++) {
                int kind = core.nodes.isWord(core.elementNodes[e]) ? WORD_ELEMENT : TRUTH_ELEMENT;
                oneWay[e] = work.makeElement(kind, e);
                otherWay[e] = oneWay[e];
            }
            putIn(core, oneWay, FETCH);
            work.remakeAll(core.nodes, images);
            for (int i = 0; i < core.invariantCount; i++) {
                question.addInvariant(images[core.invariants[i]]);
            }
        }

        private void step(Core core, int[] state, int fetch) {
            putIn(core, state, fetch);
            work.remakeAll(core.nodes, images);
            takeImages(core, core.nextNodes, state);
        }

        private void plainStep(Core core, int[] state) {
            putIn(core, state, FALSE);
            work.remakeAll(core.nodes, images);
            takeImages(core, core.plainNodes, state);
        }

        private void putIn(Core core, int[] state, int fetch) {
            images[FALSE] = FALSE;
            images[TRUE] = TRUE;
            images[FETCH] = fetch;
            for (int e = 0; e < core.elementCount; e++) {
                images[core.elementNodes[e]] = state[e];
            }
        }

        private void takeImages(Core core, int[] told, int[] state) {
            for (int e = 0; e < core.elementCount; e++) {
                if (told[e] != NONE) {
                    state[e] = images[told[e]];
                }
            }
        }

        private void markInvariants() {
            work.unmark(marks);
            for (int i = 0; i < question.invariantCount; i++) {
                work.mark(marks, question.invariants[i]);
            }
        }

        private void countDeep(Outcome outcome) {
            work.spread(marks);
            for (int at = 0; at < work.used; at++) {
                if (marks[at]) {
                    int kind = work.kinds[at];
                    if (kind == WORD_ELEMENT || kind == APPLICATION) {
                        outcome.deepWords++;
                    } else if (kind == TRUTH_ELEMENT || kind == FETCH) {
                        outcome.deepTruths++;
                    }
                }
            }
        }

        void decide(Outcome outcome) {
            if (outcome.isTooLarge()) {
                outcome.answer = TOO_LARGE;
            } else if (question.claimCount == 0) {
                outcome.answer = HOLDS;
            } else {
                markNeeded();
                outcome.answer = search.findLeast(marks) ? FAILS : HOLDS;
                search.tell(outcome);
            }
        }

        /** Deep nodes that no claim and no invariant is made of can be 0 in the least state: they are left out. */
        private void markNeeded() {
            markInvariants();
            for (int i = 0; i < question.claimCount; i++) {
                work.mark(marks, question.claims[i]);
            }
            work.spread(marks);
        }
    }

    /** Values of nodes in 64 states at once: a truth's is a bit of one row, a word's (0 .. 7) one of each of three. */
    private static final class Planes {
        private final Nodes work;
        private final long[] lows;
        private final long[] mids;
        private final long[] highs;

        Planes(Nodes work) {
            this.work = work;
            lows = new long[WORK_LIMIT];
            mids = new long[WORK_LIMIT];
            highs = new long[WORK_LIMIT];
        }

        long truthOf(int at) {
            return lows[at];
        }

        void setTruth(int at, long states) {
            lows[at] = states;
        }

        void setWord(int at, int value) {
            lows[at] = -(long) (value & 1);
            mids[at] = -(long) (value >> 1 & 1);
            highs[at] = -(long) (value >> 2 & 1);
        }

        /** The states in which two words are the same. */
        long same(int a, int b) {
            return ~((lows[a] ^ lows[b]) | (mids[a] ^ mids[b]) | (highs[a] ^ highs[b]));
        }

        void reckon(int at) {
            int first = work.firsts[at];
            int second = work.seconds[at];
            switch (work.kinds[at]) {
                case EQUALITY:
                    lows[at] = same(first, second);
                    break;
                case NOT:
                    lows[at] = ~lows[first];
                    break;
                case BOTH:
                    lows[at] = lows[first] & lows[second];
                    break;
                case CHOICE:
                    choose(at, lows[first], second, work.thirds[at]);
                    break;
                default:
                    break;
            }
        }

        private void choose(int at, long states, int a, int b) {
            lows[at] = (states & lows[a]) | (~states & lows[b]);
            if (work.words[at]) {
                mids[at] = (states & mids[a]) | (~states & mids[b]);
                highs[at] = (states & highs[a]) | (~states & highs[b]);
            }
        }
    }

    /**
     * Looks for the least state that fails. Words (elements first, then applications) are given numbers in turn, each
     * one that was there before or the next one; under each the states of all truths are looked at at once. The number
     * of such a state has the first truth as its highest bit, so that lower numbers are lesser states.
     */
    private static final class Search {
        private final Nodes work;
        private final Question question;
        private final Planes planes;
        private final int[] truths;
        private final int[] words;
        private final int[] values;
        // A node's level is how many words must have numbers before it can be reckoned; order has the nodes of a level
        // from starts[level] to ahead of starts[level + 1].
        private final int[] levels;
        private final int[] order;
        private final int[] starts;
        private final int[] leastValues;
        private int truthCount;
        private int wordCount;
        private int wordElementCount;
        private int leastIndex;
        private int leastClaim;

        Search(Nodes work, Question question) {
            this.work = work;
            this.question = question;
            planes = new Planes(work);
            truths = new int[DEEP_TRUTH_LIMIT];
            words = new int[DEEP_WORD_LIMIT];
            values = new int[DEEP_WORD_LIMIT];
            levels = new int[WORK_LIMIT];
            order = new int[WORK_LIMIT];
            starts = new int[DEEP_WORD_LIMIT + 2];
            leastValues = new int[DEEP_WORD_LIMIT];
        }

        boolean findLeast(boolean[] needed) {
            leastIndex = NO_STATE;
            leastClaim = 0;
            collect(needed);
            setLevels(needed);
            arrange(needed);
            setTruths();
            reckonLevel(0);
            long states = withInvariants(0, statesBelow(1 << truthCount));
            if (states != 0) {
                giveNumbers(0, 0, states);
            }
            return leastIndex != NO_STATE;
        }

        void tell(Outcome outcome) {
            if (leastIndex == NO_STATE) {
                return;
            }
            outcome.differing = question.claimElements[leastClaim];
            for (int i = 0; i < truthCount; i++) {
                int bit = leastIndex >> (truthCount - 1 - i) & 1;
                if (truths[i] == FETCH) {
                    outcome.fetch = bit;
                } else {
                    outcome.values[work.firsts[truths[i]]] = bit;
                }
            }
            for (int i = 0; i < wordElementCount; i++) {
                outcome.values[work.firsts[words[i]]] = leastValues[i];
            }
        }

        /** Elements' nodes are made first and in their order, so that the order of nodes is theirs. */
        private void collect(boolean[] needed) {
            truthCount = 0;
            wordCount = 0;
            wordElementCount = 0;
            for (int at = FETCH + 1; at < work.used; at++) {
                if (needed[at]) {
                    collectNode(at, work.kinds[at]);
                }
            }
            if (needed[FETCH]) {
                addTruth(FETCH);
            }
        }

        private void collectNode(int at, int kind) {
            if (kind == TRUTH_ELEMENT) {
                addTruth(at);
            } else if (kind == WORD_ELEMENT || kind == APPLICATION) {
                addWord(at);
                if (kind == WORD_ELEMENT) {
                    wordElementCount = wordCount;
                }
            }
        }

        private void addTruth(int at) {
            if (truthCount < truths.length) {
                truths[truthCount] = at;
                truthCount++;
            }
        }

        private void addWord(int at) {
            if (wordCount < words.length) {
                words[wordCount] = at;
                wordCount++;
            }
        }

        private void setLevels(boolean[] needed) {
            int given = 0;
            for (int at = 0; at < work.used; at++) {
                if (needed[at]) {
                    int kind = work.kinds[at];
                    if (kind == WORD_ELEMENT || kind == APPLICATION) {
                        given++;
                        levels[at] = given;
                    } else {
                        levels[at] = kind < APPLICATION ? 0 : levelOfParts(at);
                    }
                }
            }
        }

        private int levelOfParts(int at) {
            int level = levelOf(work.firsts[at]);
            level = Math.max(level, levelOf(work.seconds[at]));
            return Math.max(level, levelOf(work.thirds[at]));
        }

        private int levelOf(int at) {
            return at == NONE ? 0 : levels[at];
        }

        /** Puts the nodes to be reckoned in order: by level, and each behind its parts. */
        private void arrange(boolean[] needed) {
            Arrays.fill(starts, 0);
            for (int at = 0; at < work.used; at++) {
                if (needed[at] && work.kinds[at] > APPLICATION) {
                    starts[levels[at]]++;
                }
            }
            for (int level = 1; level < starts.length; level++) {
                starts[level] += starts[level - 1];
            }
            // Each stands at its level's end now; filling from behind moves it to the level's start.
            for (int at = work.used - 1; at >= 0; at--) {
                if (needed[at] && work.kinds[at] > APPLICATION) {
                    starts[levels[at]]--;
                    order[starts[levels[at]]] = at;
                }
            }
        }

        private void setTruths() {
            planes.setTruth(FALSE, 0L);
            planes.setTruth(TRUE, -1L);
            for (int i = 0; i < truthCount; i++) {
                planes.setTruth(truths[i], COLUMNS[truthCount - 1 - i]);
            }
        }

        private void reckonLevel(int level) {
            for (int i = starts[level]; i < starts[level + 1]; i++) {
                planes.reckon(order[i]);
            }
        }

        private long withInvariants(int level, long states) {
            long left = states;
            for (int i = 0; i < question.invariantCount; i++) {
                if (levels[question.invariants[i]] == level) {
                    left &= planes.truthOf(question.invariants[i]);
                }
            }
            return left;
        }

        /** Gives word number given, and those behind it, all numbers that they can be; distinct ones are there. */
        private void giveNumbers(int given, int distinct, long states) {
            if (given >= wordCount) {
                look(states);
                return;
            }
            for (int value = 0; value <= distinct; value++) {
                long left = withFunctions(given, value, states & statesOfUse(given));
                if (left != 0) {
                    values[given] = value;
                    planes.setWord(words[given], value);
                    reckonLevel(given + 1);
                    left = withInvariants(given + 1, left);
                }
                if (left != 0) {
                    giveNumbers(given + 1, Math.max(distinct, value + 1), left);
                }
            }
        }

        /**
         * Word elements go up: behind a new number of one of them a state must be lesser by its truths than the least
         * so far. Under other functions alone, the least state may still show a lower claim.
         */
        private long statesOfUse(int given) {
            boolean sameElements = given >= wordElementCount;
            return statesBelow(sameElements && leastClaim > 0 ? leastIndex + 1 : leastIndex);
        }

        /** A function answers the same for the same: the states in which a word can be this value. */
        private long withFunctions(int given, int value, long states) {
            int at = words[given];
            long left = states;
            for (int earlier = wordElementCount; earlier < given; earlier++) {
                int other = words[earlier];
                if (values[earlier] != value && work.thirds[other] == work.thirds[at]) {
                    left &= ~sameArguments(at, other);
                }
            }
            return left;
        }

        private long sameArguments(int at, int other) {
            int second = work.seconds[at];
            int otherSecond = work.seconds[other];
            long first = planes.same(work.firsts[at], work.firsts[other]);
            if (second == NONE || otherSecond == NONE) {
                return second == otherSecond ? first : 0L;
            }
            return first & planes.same(second, otherSecond);
        }

        /** All words have numbers: keeps the least of the states that fail, and the lowest claim in it. */
        private void look(long states) {
            long failing = 0L;
            for (int i = 0; i < question.claimCount; i++) {
                failing |= planes.truthOf(question.claims[i]);
            }
            failing &= states;
            if (failing == 0L) {
                return;
            }
            int index = Long.bitCount((failing & -failing) - 1L);
            int claim = lowestClaim(index);
            if (index < leastIndex || (index == leastIndex && claim < leastClaim)) {
                leastIndex = index;
                leastClaim = claim;
                System.arraycopy(values, 0, leastValues, 0, wordElementCount);
            }
        }

        private int lowestClaim(int index) {
            for (int i = 0; i < question.claimCount; i++) {
                if ((planes.truthOf(question.claims[i]) >>> index & 1L) == 1L) {
                    return i;
                }
            }
            return question.claimCount - 1;
        }

        private static long statesBelow(int index) {
            return index >= NO_STATE ? -1L : (1L << index) - 1L;
        }
    }
}
