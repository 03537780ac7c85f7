import java.util.ArrayList;
import java.util.HashMap;
import java.util.HashSet;
import java.util.LinkedHashMap;
import java.util.List;
import java.util.Map;
import java.util.Random;
import java.util.Set;
import java.util.TreeSet;

/**
 * Runs of calls drawn from fixed seeds, answered by the class and by a plain model of the document. The model makes
 * nodes only to count the deep ones; whether an equation holds it finds by letting the core run on numbers, with every
 * table of functions that can matter.
 */
public final class OracleTest {
    static final int NONE = -1;

    /** A made node: kind, function or element number, parts. Each is there once in its world. */
    static final class Made {
        final int serial;
        final int kind;
        final int number;
        final List<Made> parts;
        final boolean word;
        final boolean fetch;

        Made(int serial, int kind, int number, List<Made> parts) {
            this.serial = serial;
            this.kind = kind;
            this.number = number;
            this.parts = parts;
            this.word = kind == 3 || kind == 5 || (kind == 9 && parts.get(1).word);
            boolean f = kind == 2;
            for (Made p : parts) f |= p.fetch;
            this.fetch = f;
        }
    }

    /** Too many tables of functions for the model. */
    static final class TooMuch extends RuntimeException {
        private static final long serialVersionUID = 1L;
    }

    static final class Model {
        final Map<List<Object>, Made> world = new HashMap<>();
        final List<Made> face = new ArrayList<>();
        final Map<Made, Integer> numbers = new HashMap<>();
        final List<Made> elements = new ArrayList<>();
        final Map<Integer, Made> next = new HashMap<>();
        final Map<Integer, Made> plain = new HashMap<>();
        final List<Made> invariants = new ArrayList<>();
        final Made no;
        final Made yes;
        final Made fetch;
        int latest = NONE;
        int latestElements = 0;
        int latestFetch = 0;
        int latestDiffers = NONE;
        int[] latestValues = new int[0];
        int deepWords = 0;
        int deepTruths = 0;

        Model() {
            no = face(make(0, 0, List.of()));
            yes = face(make(1, 0, List.of()));
            fetch = face(make(2, 0, List.of()));
        }

        Made face(Made m) {
            if (!numbers.containsKey(m)) {
                if (face.size() == 300) throw new UnsupportedOperationException();
                numbers.put(m, face.size());
                face.add(m);
            }
            return m;
        }

        Made make(int kind, int number, List<Made> parts) {
            List<Object> key = new ArrayList<>();
            key.add(kind);
            key.add(number);
            if (kind == 6 || kind == 8) key.add(new HashSet<Object>(parts)); else key.addAll(parts);
            return world.computeIfAbsent(key, k -> new Made(world.size(), kind, number, parts));
        }

        Made plainest(int kind, int number, List<Made> p) {
            switch (kind) {
                case 6:
                    if (p.get(0) == p.get(1)) return yes;
                    break;
                case 7:
                    if (p.get(0) == yes) return no;
                    if (p.get(0) == no) return yes;
                    if (p.get(0).kind == 7) return p.get(0).parts.get(0);
                    break;
                case 8:
                    if (p.contains(no)) return no;
                    if (p.get(0) == yes) return p.get(1);
                    if (p.get(1) == yes) return p.get(0);
                    if (p.get(0) == p.get(1)) return p.get(0);
                    break;
                case 9:
                    if (p.get(0) == yes) return p.get(1);
                    if (p.get(0) == no) return p.get(2);
                    if (p.get(1) == p.get(2)) return p.get(1);
                    break;
                default:
                    break;
            }
            return make(kind, number, p);
        }

        Made at(int node) {
            if (node < 0 || node >= face.size()) throw new IndexOutOfBoundsException();
            return face.get(node);
        }

        void want(boolean fine) {
            if (!fine) throw new IllegalArgumentException();
        }

        int element(int kind) {
            if (elements.size() == 16 || face.size() == 300) throw new UnsupportedOperationException();
            Made m = face(make(kind, elements.size(), List.of()));
            elements.add(m);
            return numbers.get(m);
        }

        int apply(int f, int a, int b) {
            Made x = at(a);
            Made y = b == NONE ? null : at(b);
            want(f >= 0 && f < 8 && x.word && (y == null || y.word));
            return numbers.get(face(make(5, f, y == null ? List.of(x) : List.of(x, y))));
        }

        int compound(int kind, int... nodes) {
            List<Made> p = new ArrayList<>();
            for (int n : nodes) p.add(at(n));
            if (kind == 6) want(p.get(0).word && p.get(1).word);
            if (kind == 7) want(!p.get(0).word);
            if (kind == 8) want(!p.get(0).word && !p.get(1).word);
            if (kind == 9) want(!p.get(0).word && p.get(1).word == p.get(2).word);
            return numbers.get(face(plainest(kind, 0, p)));
        }

        int tell(boolean isPlain, int element, int node) {
            if (element < 0 || element >= elements.size()) throw new IndexOutOfBoundsException();
            Made m = at(node);
            want(m.word == elements.get(element).word && !(isPlain && m.fetch));
            return (isPlain ? plain : next).put(element, m) == null ? 0 : 1;
        }

        int invariant(int node) {
            Made m = at(node);
            want(!m.word && !m.fetch);
            if (invariants.size() == 8) throw new IllegalStateException();
            invariants.add(m);
            return invariants.size() - 1;
        }

        int node(int node, int what) {
            Made m = at(node);
            if (what < 0 || what > 3) throw new IndexOutOfBoundsException();
            if (what == 0) return m.kind;
            if (m.kind == 3 || m.kind == 4) return what == 1 ? m.number : NONE;
            if (m.kind == 5 && what == 3) return m.number;
            List<Integer> p = new ArrayList<>();
            for (Made part : m.parts) p.add(numbers.get(part));
            if (m.kind == 6 || m.kind == 8) p.sort(null);
            return what <= p.size() ? p.get(what - 1) : NONE;
        }

        int count(int what) {
            int[] all = {face.size(), elements.size(), plain.size(), invariants.size(), deepWords, deepTruths};
            return what >= 0 && what < 6 ? all[what] : NONE;
        }

        int witness(int element) {
            if (latest != 0) throw new IllegalStateException();
            if (element < NONE || element >= latestElements) throw new IndexOutOfBoundsException();
            return element == NONE ? latestFetch : latestValues[element];
        }

        int differs() {
            if (latest != 0) throw new IllegalStateException();
            return latestDiffers;
        }

        // ---- nodes put in for elements, to know the deep ones

        Made put(Made m, List<Made> state, Made f, Map<Made, Made> known) {
            Made got = known.get(m);
            if (got == null) {
                if (m.kind == 2) got = f;
                else if (m.kind == 3 || m.kind == 4) got = state.get(m.number);
                else if (m.kind < 2) got = m;
                else {
                    List<Made> p = new ArrayList<>();
                    for (Made part : m.parts) p.add(put(part, state, f, known));
                    got = plainest(m.kind, m.number, p);
                }
                known.put(m, got);
            }
            return got;
        }

        List<Made> step(List<Made> state, Made f, Map<Integer, Made> told) {
            Map<Made, Made> known = new HashMap<>();
            List<Made> after = new ArrayList<>();
            for (int e = 0; e < state.size(); e++) {
                after.add(told.containsKey(e) ? put(told.get(e), state, f, known) : state.get(e));
            }
            return after;
        }

        void deepen(Made m, Set<Made> deep) {
            if (deep.add(m)) for (Made p : m.parts) deepen(p, deep);
        }

        Set<Made> deepOfRun(int depth) {
            List<Made> one = step(elements, yes, next);
            List<Made> other = elements;
            for (int i = 0; i < depth; i++) {
                one = step(one, no, next);
                other = step(other, no, next);
            }
            other = step(other, no, plain);
            Set<Made> deep = new HashSet<>();
            for (int e : plain.keySet()) {
                deepen(one.get(e), deep);
                deepen(other.get(e), deep);
            }
            for (Made i : invariants) deepen(i, deep);
            return deep;
        }

        Set<Made> deepOfKept(int invariant) {
            Set<Made> deep = new HashSet<>();
            deepen(put(invariants.get(invariant), step(elements, fetch, next), fetch, new HashMap<>()), deep);
            for (Made i : invariants) deepen(i, deep);
            return deep;
        }

        // ---- the questions, on numbers

        int ask(Set<Made> deep, int depth, int invariant) {
            int words = 0;
            int truths = 0;
            for (Made m : deep) {
                if (m.kind == 3 || m.kind == 5) words++;
                if (m.kind == 4 || m.kind == 2) truths++;
            }
            int answer = 1;
            int[] values = new int[elements.size()];
            int[] f = {invariant == NONE ? 1 : 0};
            TreeSet<Integer> differing = new TreeSet<>();
            if (words > 7 || truths > 6) answer = 2;
            else if (truthsFail(0, deep, values, f, depth, invariant, differing)) answer = 0;
            deepWords = words;
            deepTruths = truths;
            latest = answer;
            latestElements = elements.size();
            latestValues = values;
            latestFetch = f[0];
            latestDiffers = differing.isEmpty() ? NONE : differing.first();
            return answer;
        }

        boolean truthsFail(int e, Set<Made> deep, int[] values, int[] f, int depth, int invariant, Set<Integer> diff) {
            if (e == elements.size()) {
                for (int v = 0; v <= (invariant != NONE && deep.contains(fetch) ? 1 : 0); v++) {
                    f[0] = invariant == NONE ? 1 : v;
                    if (wordsFail(0, 0, deep, values, f, depth, invariant, diff)) return true;
                }
                return false;
            }
            if (elements.get(e).word || !deep.contains(elements.get(e))) {
                return truthsFail(e + 1, deep, values, f, depth, invariant, diff);
            }
            for (int v = 0; v <= 1; v++) {
                values[e] = v;
                if (truthsFail(e + 1, deep, values, f, depth, invariant, diff)) return true;
            }
            return false;
        }

        boolean wordsFail(int e, int there, Set<Made> deep, int[] values, int[] f, int depth, int invariant,
                Set<Integer> diff) {
            if (e == elements.size()) return new Numbers(this, values, f[0], depth, invariant).failsForSome(diff);
            if (!elements.get(e).word || !deep.contains(elements.get(e))) {
                return wordsFail(e + 1, there, deep, values, f, depth, invariant, diff);
            }
            for (int v = 0; v <= there; v++) {
                values[e] = v;
                if (wordsFail(e + 1, Math.max(there, v + 1), deep, values, f, depth, invariant, diff)) return true;
            }
            return false;
        }
    }

    /** A core on numbers. What a function answers is chosen when it is first asked for, in all ways one by one. */
    static final class Numbers {
        final Model model;
        final int[] values;
        final int fetch;
        final int depth;
        final int invariant;
        final List<Integer> chosen = new ArrayList<>();
        final List<Integer> highest = new ArrayList<>();
        final Map<List<Integer>, Integer> table = new HashMap<>();
        final Map<List<Object>, Integer> known = new HashMap<>();
        int taken;
        int top;

        Numbers(Model model, int[] values, int fetch, int depth, int invariant) {
            this.model = model;
            this.values = values;
            this.fetch = fetch;
            this.depth = depth;
            this.invariant = invariant;
        }

        boolean failsForSome(Set<Integer> diff) {
            boolean fails = false;
            for (int tries = 0; ; tries++) {
                if (tries > 20000) throw new TooMuch();
                table.clear();
                known.clear();
                taken = 0;
                top = 0;
                for (int e = 0; e < values.length; e++) if (model.elements.get(e).word) top = Math.max(top, values[e]);
                fails |= failsNow(diff);
                int last = chosen.size() - 1;
                while (last >= 0 && chosen.get(last).equals(highest.get(last))) {
                    chosen.remove(last);
                    highest.remove(last);
                    last--;
                }
                if (last < 0) return fails;
                chosen.set(last, chosen.get(last) + 1);
            }
        }

        boolean failsNow(Set<Integer> diff) {
            for (Made i : model.invariants) if (value(i, 0, 0) == 0) return false;
            if (invariant != NONE) return value(model.invariants.get(invariant), 2, 1) == 0;
            boolean fails = false;
            for (int e : model.plain.keySet()) {
                int one = element(e, 0, depth + 1);
                int other = value(model.plain.get(e), 1, depth);
                if (one != other) {
                    fails = true;
                    diff.add(e);
                }
            }
            return fails;
        }

        /** Way 0 fetches at its first step, way 1 never, way 2 as the state says. */
        int element(int e, int way, int steps) {
            if (steps == 0) return values[e];
            return model.next.containsKey(e) ? value(model.next.get(e), way, steps - 1) : element(e, way, steps - 1);
        }

        int value(Made m, int way, int steps) {
            List<Object> key = List.of(m, way, steps);
            Integer got = known.get(key);
            if (got == null) {
                got = reckon(m, way, steps);
                known.put(key, got);
            }
            return got;
        }

        int reckon(Made m, int way, int steps) {
            switch (m.kind) {
                case 0: return 0;
                case 1: return 1;
                case 2: return way == 0 ? (steps == 0 ? 1 : 0) : way == 1 ? 0 : fetch;
                case 3: case 4: return element(m.number, way, steps);
                case 6:
                    if (m.parts.get(0) == m.parts.get(1)) return 1;
                    return value(m.parts.get(0), way, steps) == value(m.parts.get(1), way, steps) ? 1 : 0;
                case 7: return 1 - value(m.parts.get(0), way, steps);
                case 8: return value(m.parts.get(0), way, steps) == 0 ? 0 : value(m.parts.get(1), way, steps);
                case 9: return value(m.parts.get(value(m.parts.get(0), way, steps) == 1 ? 1 : 2), way, steps);
                default: break;
            }
            List<Integer> asked = new ArrayList<>();
            asked.add(m.number);
            for (Made p : m.parts) asked.add(value(p, way, steps));
            Integer answer = table.get(asked);
            if (answer == null) {
                answer = choose();
                table.put(asked, answer);
            }
            return answer;
        }

        int choose() {
            if (taken == chosen.size()) {
                chosen.add(0);
                highest.add(top + 1);
            }
            int v = chosen.get(taken);
            taken++;
            top = Math.max(top, v);
            return v;
        }
    }

    interface Call {
        int answer();
    }

    static int wrong = 0;
    static final Map<String, Integer> seen = new LinkedHashMap<>();

    static String answerOf(Call call) {
        try {
            return String.valueOf(call.answer());
        } catch (TooMuch e) {
            throw e;
        } catch (RuntimeException e) {
            return e.getClass().getSimpleName();
        }
    }

    static void compare(long seed, String name, Call program, Call model) {
        String due = answerOf(model);
        String got = answerOf(program);
        if (!due.equals(got)) {
            wrong++;
            if (wrong < 40) System.out.println("seed " + seed + ": " + name + " answered " + got + ", due is " + due);
        }
        String group = name.substring(0, name.indexOf('('));
        if (group.equals("run") || group.equals("kept") || group.equals("differs")) {
            seen.merge(group + " " + due, 1, Integer::sum);
        }
    }

    static final class Drawn {
        final long seed;
        final Random dice;
        final Probe x = new Probe();
        final Model m = new Model();
        final int wild;

        Drawn(long seed) {
            this.seed = seed;
            dice = new Random(seed);
            wild = seed % 3 == 0 ? 8 : 40;
        }

        /** A run ends with the last call that the document promises an answer to. */
        void compare(String name, Call program, Call model) {
            if (x.calls() < Probe.CALL_LIMIT) {
                OracleTest.compare(seed, name, program, model);
            }
        }

        /** A number at an edge of those from 0 to ahead of end, or far from them. */
        int wildNumber(int end) {
            int[] numbers = {NONE, -2, end, end + 1, end - 1, 0, 300, Integer.MIN_VALUE, Integer.MAX_VALUE};
            return numbers[dice.nextInt(numbers.length)];
        }

        int node() {
            return dice.nextInt(wild * 2) == 0 ? wildNumber(m.face.size()) : dice.nextInt(m.face.size());
        }

        int sorted(boolean word) {
            for (int tries = 0; tries < 12 && dice.nextInt(wild) != 0; tries++) {
                int n = node();
                if (n >= 0 && n < m.face.size() && m.face.get(n).word == word) return n;
            }
            return node();
        }

        int element() {
            return dice.nextInt(wild) == 0 ? wildNumber(m.elements.size()) : dice.nextInt(Math.max(1, m.elements.size()));
        }

        boolean isWord(int element) {
            return element >= 0 && element < m.elements.size() ? m.elements.get(element).word : dice.nextBoolean();
        }

        void grow() {
            int kind = dice.nextInt(11);
            if (kind < 3) {
                int f = dice.nextInt(wild) == 0 ? wildNumber(8) : dice.nextInt(2);
                int a = sorted(true);
                int b = dice.nextInt(2) == 0 ? NONE : sorted(true);
                compare("apply(" + f + "," + a + "," + b + ")", () -> x.apply(f, a, b), () -> m.apply(f, a, b));
            } else if (kind < 5) {
                int a = sorted(true);
                int b = sorted(true);
                compare("equal(" + a + "," + b + ")", () -> x.equal(a, b), () -> m.compound(6, a, b));
            } else if (kind < 6) {
                int a = sorted(false);
                compare("not(" + a + ")", () -> x.not(a), () -> m.compound(7, a));
            } else if (kind < 7) {
                int a = sorted(false);
                int b = sorted(false);
                compare("both(" + a + "," + b + ")", () -> x.both(a, b), () -> m.compound(8, a, b));
            } else {
                boolean word = dice.nextInt(3) > 0;
                int c = sorted(false);
                int a = sorted(word);
                int b = sorted(word);
                compare("choice(" + c + "," + a + "," + b + ")", () -> x.choice(c, a, b), () -> m.compound(9, c, a, b));
            }
        }

        void tell() {
            int e = element();
            int n = sorted(isWord(e));
            if (dice.nextBoolean()) {
                compare("next(" + e + "," + n + ")", () -> x.next(e, n) ? 1 : 0, () -> m.tell(false, e, n));
            } else {
                compare("plain(" + e + "," + n + ")", () -> x.plain(e, n) ? 1 : 0, () -> m.tell(true, e, n));
            }
        }

        void question() {
            if (dice.nextInt(3) > 0 || m.invariants.isEmpty()) {
                int d = dice.nextInt(wild) == 0 ? wildNumber(9) : dice.nextInt(dice.nextInt(4) == 0 ? 9 : 4);
                compare("run(" + d + ")", () -> x.run(d), () -> {
                    if (d < 0 || d > 8) throw new IllegalArgumentException();
                    return m.ask(m.deepOfRun(d), d, NONE);
                });
            } else {
                int i = dice.nextInt(wild) == 0 ? wildNumber(m.invariants.size()) : dice.nextInt(m.invariants.size());
                compare("kept(" + i + ")", () -> x.kept(i), () -> {
                    if (i < 0 || i >= m.invariants.size()) throw new IndexOutOfBoundsException();
                    return m.ask(m.deepOfKept(i), 0, i);
                });
            }
            look();
        }

        void look() {
            compare("differs()", () -> x.differs(), () -> m.differs());
            for (int e = -2; e <= m.elements.size(); e++) {
                int element = e;
                compare("witness(" + e + ")", () -> x.witness(element), () -> m.witness(element));
            }
            for (int what = -1; what <= 6; what++) {
                int w = what;
                compare("count(" + w + ")", () -> x.count(w), () -> m.count(w));
            }
            int far = wildNumber(m.elements.size());
            compare("witness(" + far + ")", () -> x.witness(far), () -> m.witness(far));
            compare("count(" + far + ")", () -> x.count(far), () -> m.count(far));
        }

        void play() {
            boolean large = seed % 4 == 1;
            int first = 1 + dice.nextInt(large ? 11 : 6);
            for (int i = 0; i < first; i++) addElement();
            for (int i = 0; large && i < 20; i++) grow();
            int calls = 10 + dice.nextInt(large ? 80 : 40);
            for (int i = 0; i < calls; i++) {
                int what = dice.nextInt(20);
                if (what < 9) grow();
                else if (what < 14) tell();
                else if (what < 15) {
                    int n = sorted(false);
                    if (dice.nextInt(3) > 0) {
                        compare("invariant(" + n + ")", () -> x.invariant(n), () -> m.invariant(n));
                    }
                } else if (what < 16) {
                    if (dice.nextInt(4) == 0) addElement();
                } else if (what < 17) {
                    int n = node();
                    int w = dice.nextInt(wild) == 0 ? wildNumber(4) : dice.nextInt(6) - 1;
                    compare("node(" + n + "," + w + ")", () -> x.node(n, w), () -> m.node(n, w));
                } else question();
            }
            for (int n = 0; n < m.face.size(); n++) {
                for (int w = 0; w < 4; w++) {
                    int a = n;
                    int b = w;
                    compare("node(" + a + "," + b + ")", () -> x.node(a, b), () -> m.node(a, b));
                }
            }
        }

        void addElement() {
            if (dice.nextInt(5) > (seed % 8 == 1 ? 3 : 1)) compare("word()", () -> x.word(), () -> m.element(3));
            else compare("truth()", () -> x.truth(), () -> m.element(4));
        }
    }

    public static void main(String[] args) {
        int runs = args.length > 0 ? Integer.parseInt(args[0]) : 4000;
        int left = 0;
        for (long seed = 1; seed <= runs; seed++) {
            try {
                new Drawn(seed).play();
            } catch (TooMuch e) {
                left++;
            }
        }
        System.out.println("answers met: " + seen + "; runs broken off as too much for the model: " + left);
        for (String due : List.of("run 0", "run 1", "run 2", "kept 0", "kept 1", "differs 0", "differs 1", "differs 2")) {
            if (seen.getOrDefault(due, 0) < 20) {
                wrong++;
                System.out.println("the runs meet too few answers of " + due);
            }
        }
        System.out.println(wrong == 0 ? "all answers are as due" : wrong + " answers are not as due");
        if (wrong != 0) System.exit(1);
    }
}
