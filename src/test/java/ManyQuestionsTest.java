import java.lang.management.ManagementFactory;
import java.lang.reflect.Array;
import java.lang.reflect.Field;
import java.lang.reflect.Modifier;
import java.util.ArrayDeque;
import java.util.ArrayList;
import java.util.Deque;
import java.util.IdentityHashMap;
import java.util.List;
import java.util.Map;
import java.util.Random;

/**
 * Rule 12 of LANGUAGE.md: run() and kept() use their rows again. One object is asked many times over, at small depths
 * and at depth 8, with few nodes and with 300: each answer, with the state, the element and the counts behind it, is
 * that of a fresh object of which nothing else was asked; and no question makes or changes a row.
 */
public final class ManyQuestionsTest {
    private static final int NONE = FlushProofs.NONE;
    private static final int FETCH = 2;
    private static final int NODE_LIMIT = 300;
    private static final int CALL_LIMIT = 512;
    private static final int SEEDS = 60;
    // Of an object with all that it ever holds; the room of a run has 600,000 objects and 7.3 million elements.
    private static final int OBJECTS_OF_ONE = 100;
    private static final int ELEMENTS_OF_ONE = 80_000;
    // Far less than one small row for each of the questions that are measured.
    private static final long BYTES_OF_QUESTIONS = 2_000L;

    private static int wrong = 0;
    private static final int[] answered = new int[3];

    private static void due(String what, Object got, Object want) {
        if (!got.equals(want)) {
            wrong++;
            System.out.println(what + " answered " + got + ", due is " + want);
        }
    }

    private enum Tell { WORD, TRUTH, APPLY, EQUAL, NOT, BOTH, CHOICE, NEXT, PLAIN, INVARIANT }

    private record Told(Tell tell, int a, int b, int c) {
        int on(FlushProofs x) {
            switch (tell) {
                case WORD: return x.word();
                case TRUTH: return x.truth();
                case APPLY: return x.apply(a, b, c);
                case EQUAL: return x.equal(a, b);
                case NOT: return x.not(a);
                case BOTH: return x.both(a, b);
                case CHOICE: return x.choice(a, b, c);
                case NEXT: return x.next(a, b) ? 1 : 0;
                case PLAIN: return x.plain(a, b) ? 1 : 0;
                default: return x.invariant(a);
            }
        }
    }

    /** An object, what it was told, and how many calls it has had. */
    private static final class Asked {
        final String name;
        final FlushProofs x = new FlushProofs();
        final List<Told> told = new ArrayList<>();
        final List<Boolean> wordElements = new ArrayList<>();
        int calls = 0;
        int nodes = 3;
        int elements = 0;
        int invariants = 0;

        Asked(String name) {
            this.name = name;
        }

        int tell(Tell tell, int... parts) {
            int[] all = {NONE, NONE, NONE};
            System.arraycopy(parts, 0, all, 0, parts.length);
            Told call = new Told(tell, all[0], all[1], all[2]);
            int answer = call.on(x);
            calls++;
            told.add(call);
            if (tell == Tell.WORD || tell == Tell.TRUTH) {
                elements++;
                wordElements.add(tell == Tell.WORD);
            }
            if (tell == Tell.INVARIANT) {
                invariants++;
            } else if (tell != Tell.NEXT && tell != Tell.PLAIN) {
                nodes = Math.max(nodes, answer + 1);
            }
            return answer;
        }

        FlushProofs fresh() {
            FlushProofs other = new FlushProofs();
            for (Told call : told) {
                call.on(other);
            }
            return other;
        }

        /** All that can be asked behind a question. */
        void compareRun(int depth) {
            FlushProofs other = fresh();
            int got = x.run(depth);
            compare(name + ": run(" + depth + ") with " + nodes + " nodes", got, other, other.run(depth));
        }

        void compareKept(int invariant) {
            FlushProofs other = fresh();
            int got = x.kept(invariant);
            compare(name + ": kept(" + invariant + ") with " + nodes + " nodes", got, other, other.kept(invariant));
        }

        private void compare(String what, int got, FlushProofs other, int want) {
            calls++;
            due(what, got, want);
            answered[want]++;
            due(what + ", count(4)", x.count(4), other.count(4));
            due(what + ", count(5)", x.count(5), other.count(5));
            calls += 2;
            if (got != 0 || want != 0) {
                return;
            }
            due(what + ", differs()", x.differs(), other.differs());
            calls++;
            for (int e = NONE; e < elements; e++) {
                due(what + ", witness(" + e + ")", x.witness(e), other.witness(e));
                calls++;
            }
        }

        /** Questions of all sorts, from small to large and back, for so many calls as long as there are any. */
        void compareSome(int budget) {
            int[] depths = {0, 8, 1, 7, 0, 3, 8, 2};
            int end = Math.min(CALL_LIMIT, calls + budget);
            for (int depth : depths) {
                if (calls + elements + 5 <= end) {
                    compareRun(depth);
                }
                if (invariants > 0 && calls + elements + 5 <= end) {
                    compareKept(depth % invariants);
                }
            }
        }
    }

    /** The README's core: an instruction comes to the register a step later than its fetch. */
    private static Asked pipeline() {
        Asked core = new Asked("pipeline");
        int pc = core.tell(Tell.WORD);
        int register = core.tell(Tell.WORD);
        int latch = core.tell(Tell.WORD);
        int full = core.tell(Tell.TRUTH);
        int up = core.tell(Tell.APPLY, 0, pc, NONE);
        core.tell(Tell.NEXT, 0, core.tell(Tell.CHOICE, FETCH, up, pc));
        int done = core.tell(Tell.APPLY, 1, register, latch);
        core.tell(Tell.NEXT, 1, core.tell(Tell.CHOICE, full, done, register));
        core.tell(Tell.NEXT, 2, core.tell(Tell.CHOICE, FETCH, pc, latch));
        core.tell(Tell.NEXT, 3, FETCH);
        core.tell(Tell.PLAIN, 0, up);
        core.tell(Tell.PLAIN, 1, core.tell(Tell.APPLY, 1, register, pc));
        return core;
    }

    /** Nodes that no element's next or plain node is made of change no answer. */
    private static void growIdly(Asked core, int nodes) {
        int last = 3;
        while (core.nodes < nodes) {
            last = core.tell(Tell.APPLY, 7, last, NONE);
        }
    }

    private static void pipelineAgain() {
        Asked core = pipeline();
        int pc = 3;
        core.tell(Tell.INVARIANT, core.tell(Tell.NOT, core.tell(Tell.EQUAL, pc, pc + 1)));
        core.tell(Tell.INVARIANT, 1);
        core.compareSome(100);
        growIdly(core, NODE_LIMIT);
        core.compareSome(CALL_LIMIT);
        Asked plain = pipeline();
        int[] want = {0, 1, 1, 1, 1, 1, 1, 1, 1};
        for (int round = 0; round < 12; round++) {
            for (int depth = 0; depth <= 8; depth++) {
                int asked = round % 2 == 0 ? depth : 8 - depth;
                due("pipeline: run(" + asked + ") again", plain.x.run(asked), want[asked]);
            }
        }
        growIdly(plain, NODE_LIMIT);
        for (int depth = 8; depth >= 0; depth--) {
            due("pipeline: run(" + depth + ") with 300 nodes", plain.x.run(depth), want[depth]);
        }
    }

    /**
     * Both ways make nearly all that they can: each step puts 293 applications more on the word, ahead of all of them
     * another one with a fetch; the plain node is the last one that is made. The counts tell whether there was room.
     */
    private static void longestChains() {
        Asked core = new Asked("chains");
        int word = core.tell(Tell.WORD);
        int way = core.tell(Tell.APPLY, 1, word, NONE);
        int start = core.tell(Tell.CHOICE, FETCH, way, word);
        int last = start;
        core.tell(Tell.PLAIN, 0, word);
        core.tell(Tell.NEXT, 0, last);
        core.compareSome(80);
        while (core.nodes < NODE_LIMIT - 1) {
            last = core.tell(Tell.APPLY, 0, last, NONE);
        }
        core.tell(Tell.NEXT, 0, last);
        core.tell(Tell.PLAIN, 0, core.tell(Tell.APPLY, 2, word, NONE));
        int chain = NODE_LIMIT - 2 - start;
        int[] depths = {8, 0, 8, 1, 5, 0, 8};
        for (int depth : depths) {
            due("chains: run(" + depth + ")", core.x.run(depth), 2);
            due("chains: count(4)", core.x.count(4), 3 + (2 * depth + 1) * chain);
            due("chains: count(5)", core.x.count(5), 0);
            core.calls += 3;
        }
        core.compareSome(CALL_LIMIT);
    }

    /** Most cores have no applications and few elements, so that none of their questions is too large for a search. */
    private static void drawnCore(long seed) {
        Random random = new Random(seed);
        Asked core = new Asked("seed " + seed);
        List<Integer> words = new ArrayList<>();
        List<Integer> truths = new ArrayList<>(List.of(FETCH));
        int[] sizes = {12 + random.nextInt(8), 30 + random.nextInt(60), NODE_LIMIT};
        int[] budgets = {50, 50, CALL_LIMIT};
        words.add(core.tell(Tell.WORD));
        for (int stage = 0; stage < sizes.length; stage++) {
            if (random.nextInt(2) == 0) {
                words.add(core.tell(Tell.WORD));
            }
            if (stage == 0 || random.nextInt(2) == 0) {
                truths.add(core.tell(Tell.TRUTH));
            }
            grow(core, random, words, truths, sizes[stage], seed % 4 == 0);
            wire(core, random, words, truths);
            core.compareSome(budgets[stage]);
        }
    }

    private static int drawn(Random random, List<Integer> from) {
        return from.get(random.nextInt(4) > 0 ? Math.max(0, from.size() - 1 - random.nextInt(6))
            : random.nextInt(from.size()));
    }

    private static void grow(
            Asked core, Random random, List<Integer> words, List<Integer> truths, int nodes, boolean applies) {
        for (int tries = 0; core.nodes < nodes && tries < 10 * NODE_LIMIT; tries++) {
            Told call = drawnNode(random, words, truths, applies);
            int before = core.nodes;
            // Calls are few: nodes that are there already, either way round, are mostly not asked for again.
            if (call.a() < call.b() && !core.told.contains(call)) {
                int made = core.tell(call.tell(), call.a(), call.b(), call.c());
                boolean isWord = call.tell() == Tell.APPLY || (call.tell() == Tell.CHOICE && words.contains(call.b()));
                if (core.nodes > before) {
                    (isWord ? words : truths).add(made);
                }
            }
        }
    }

    private static Told drawnNode(Random random, List<Integer> words, List<Integer> truths, boolean applies) {
        int truth = drawn(random, truths);
        switch (random.nextInt(applies ? 6 : 5)) {
            case 0: return new Told(Tell.CHOICE, truth, drawn(random, words), drawn(random, words));
            case 1: return new Told(Tell.EQUAL, drawn(random, words), drawn(random, words), NONE);
            case 2: return new Told(Tell.NOT, truth, NODE_LIMIT, NONE);
            case 3: return new Told(Tell.BOTH, truth, drawn(random, truths), NONE);
            case 4: return new Told(Tell.CHOICE, truth, drawn(random, truths), drawn(random, truths));
            default: return new Told(Tell.APPLY, random.nextInt(2), drawn(random, words), NONE);
        }
    }

    private static void wire(Asked core, Random random, List<Integer> words, List<Integer> truths) {
        for (int e = 0; e < core.elements; e++) {
            List<Integer> from = core.wordElements.get(e) ? words : truths;
            core.tell(Tell.NEXT, e, from.get(from.size() - 1 - random.nextInt(Math.min(4, from.size()))));
            if (random.nextInt(2) == 0) {
                tryTell(core, Tell.PLAIN, e, drawn(random, from));
            }
        }
        for (int i = 0; i < 2; i++) {
            tryTell(core, Tell.INVARIANT, drawn(random, truths));
        }
    }

    /** FETCH may be in what was drawn; then the class refuses it, and nothing was told. */
    private static void tryTell(Asked core, Tell tell, int... parts) {
        try {
            core.tell(tell, parts);
        } catch (IllegalArgumentException e) {
            core.calls++;
        }
    }

    /** All objects and rows that can be reached, with how many fields and elements each has. */
    private static Map<Object, Integer> reached(Object from) throws IllegalAccessException {
        Map<Object, Integer> seen = new IdentityHashMap<>();
        Deque<Object> open = new ArrayDeque<>();
        open.add(from);
        while (!open.isEmpty()) {
            Object at = open.remove();
            if (seen.containsKey(at)) {
                continue;
            }
            if (at.getClass().isArray()) {
                seen.put(at, Array.getLength(at));
                continue;
            }
            int fields = 0;
            for (Field field : at.getClass().getDeclaredFields()) {
                if (!Modifier.isStatic(field.getModifiers())) {
                    fields++;
                    field.setAccessible(true);
                    Object value = field.get(at);
                    if (value != null && !field.getType().isPrimitive()) {
                        open.add(value);
                    }
                }
            }
            seen.put(at, fields);
        }
        return seen;
    }

    private static void askAll(FlushProofs x, int rounds) {
        for (int round = 0; round < rounds; round++) {
            for (int depth = 8; depth >= 0; depth--) {
                x.run(depth);
                x.kept(0);
            }
        }
    }

    private static Asked largeCore() {
        Asked core = pipeline();
        core.tell(Tell.INVARIANT, core.tell(Tell.NOT, core.tell(Tell.EQUAL, 3, 4)));
        growIdly(core, NODE_LIMIT);
        return core;
    }

    private static void sameRows() throws IllegalAccessException {
        Asked core = pipeline();
        Map<Object, Integer> before = reached(core.x);
        core.tell(Tell.INVARIANT, core.tell(Tell.NOT, core.tell(Tell.EQUAL, 3, 4)));
        askAll(core.x, 2);
        growIdly(core, NODE_LIMIT);
        askAll(core.x, 5);
        Map<Object, Integer> behind = reached(core.x);
        due("objects and rows behind the questions", behind.size(), before.size());
        for (Object row : behind.keySet()) {
            due("a row that was there ahead of the questions", before.containsKey(row), true);
        }
        int elements = 0;
        for (int size : behind.values()) {
            elements += size;
        }
        due("few objects", behind.size() <= OBJECTS_OF_ONE, true);
        due("few elements (" + elements + ")", elements <= ELEMENTS_OF_ONE, true);
    }

    /** What questions make and drop again is seen in the bytes that this thread has been given. */
    private static void nothingMade() {
        if (!(ManagementFactory.getThreadMXBean() instanceof com.sun.management.ThreadMXBean)) {
            System.out.println("this machine does not tell what a thread makes");
            return;
        }
        com.sun.management.ThreadMXBean threads =
            (com.sun.management.ThreadMXBean) ManagementFactory.getThreadMXBean();
        if (!threads.isThreadAllocatedMemorySupported() || !threads.isThreadAllocatedMemoryEnabled()) {
            System.out.println("this machine does not tell what a thread makes");
            return;
        }
        long self = Thread.currentThread().getId();
        askAll(largeCore().x, 5);
        Asked core = largeCore();
        threads.getThreadAllocatedBytes(self);
        long before = threads.getThreadAllocatedBytes(self);
        askAll(core.x, 10);
        long made = threads.getThreadAllocatedBytes(self) - before;
        due("180 questions make nothing (" + made + " bytes)", made <= BYTES_OF_QUESTIONS, true);
    }

    public static void main(String[] args) throws IllegalAccessException {
        pipelineAgain();
        longestChains();
        for (long seed = 1; seed <= SEEDS; seed++) {
            drawnCore(seed);
        }
        due("questions that fail are among them", answered[0] > 100, true);
        due("questions that hold are among them", answered[1] > 100, true);
        due("questions that are too large are among them", answered[2] > 100, true);
        sameRows();
        nothingMade();
        if (wrong > 0) {
            System.out.println(wrong + " wrong");
            System.exit(1);
        }
    }
}
