/** An object of FlushProofs whose calls are counted: behind the 512th the document promises nothing. */
final class Probe {
    static final int CALL_LIMIT = 512;

    private final FlushProofs asked = new FlushProofs();
    private int calls = 0;

    private FlushProofs counted() {
        calls++;
        if (calls > CALL_LIMIT) {
            throw new AssertionError("the test makes more calls of one object than the document promises answers to");
        }
        return asked;
    }

    int calls() {
        return calls;
    }

    int word() {
        return counted().word();
    }

    int truth() {
        return counted().truth();
    }

    int apply(int f, int a, int b) {
        return counted().apply(f, a, b);
    }

    int equal(int a, int b) {
        return counted().equal(a, b);
    }

    int not(int a) {
        return counted().not(a);
    }

    int both(int a, int b) {
        return counted().both(a, b);
    }

    int choice(int c, int a, int b) {
        return counted().choice(c, a, b);
    }

    boolean next(int element, int node) {
        return counted().next(element, node);
    }

    boolean plain(int element, int node) {
        return counted().plain(element, node);
    }

    int invariant(int node) {
        return counted().invariant(node);
    }

    int run(int depth) {
        return counted().run(depth);
    }

    int kept(int invariant) {
        return counted().kept(invariant);
    }

    int witness(int element) {
        return counted().witness(element);
    }

    int differs() {
        return counted().differs();
    }

    int node(int node, int what) {
        return counted().node(node, what);
    }

    int count(int what) {
        return counted().count(what);
    }
}
