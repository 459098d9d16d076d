import java.util.function.Function;
import java.util.function.Supplier;

/** Wrong calls of each method: what they throw, which of several comes first, and that they change nothing. */
public final class RefusalsTest {
    private static final String INDEX = "throws.IndexOutOfBoundsException";
    private static final String STATE = "throws.IllegalStateException";
    private static final String ARGUMENT = "throws.IllegalArgumentException";

    private static final int ATOM = 0;
    private static final int ONLY_X = 1;
    private static final int ONLY_Y = 2;
    private static final int CLOSED = 3;
    private static final int ONLY_X_DEEP = 4;
    private static final int SIZE_2 = 5;
    private static final int SIZE_4 = 6;
    private static final int SIZE_6 = 7;
    private static final int NOT_ONLY_X = 8;
    private static final int EMPTY = 9;
    private static final int X_AND_Y = 10;
    private static final int X_AND_Y_DEEP = 11;
    private static final int NEXT = 12;

    private static final int[] NO_NODE = {Integer.MIN_VALUE, -1, NEXT, 59, 60, Integer.MAX_VALUE};

    private final String name;
    private final Supplier<QuantifierOut> maker;

    private RefusalsTest(String name, Supplier<QuantifierOut> maker) {
        this.name = name;
        this.maker = maker;
    }

    public static void main(String[] args) {
        numberRow();
        new RefusalsTest("promise 1", QuantifierOut::new).newObject();
        RefusalsTest some = new RefusalsTest("some nodes", RefusalsTest::someNodes);
        some.atom();
        some.pairs();
        some.not();
        some.quantifiers();
        some.known();
        some.holds();
        some.decide();
        some.pieces();
        some.end();
        some.alike();
        new RefusalsTest("60 nodes", RefusalsTest::allNodes).full();
        Checks.finish();
    }

    private static QuantifierOut someNodes() {
        QuantifierOut out = new QuantifierOut();
        out.atom(4, 0, 2, 1);
        out.some(1, ATOM);
        out.every(0, ATOM);
        out.some(0, ONLY_X);
        out.every(1, ONLY_X);
        out.both(ONLY_X, ONLY_X);
        out.either(SIZE_2, SIZE_2);
        out.both(SIZE_4, SIZE_2);
        out.not(ONLY_X);
        out.both(ONLY_X, NOT_ONLY_X);
        out.either(ONLY_X, ONLY_Y);
        out.both(ONLY_X_DEEP, ATOM);
        return out;
    }

    private static QuantifierOut allNodes() {
        QuantifierOut out = someNodes();
        for (int made = NEXT; made < 60; made++) {
            out.not(ATOM);
        }
        return out;
    }

    /** Each call has an object of its own: behind it, all answers are those of an object that never saw it. */
    private void refused(String call, String want, Function<QuantifierOut, Object> made) {
        QuantifierOut touched = maker.get();
        Checks.due(name + ": " + call, want, () -> made.apply(touched));
        Checks.due(name + ": what is left behind " + call, answers(maker.get()), () -> answers(touched));
    }

    /** With 60 NODES and the calls that made them this stays below 512 calls. */
    private static String answers(QuantifierOut out) {
        StringBuilder all = new StringBuilder();
        int nodes = out.count();
        all.append(nodes);
        for (int node = 0; node < nodes; node++) {
            int p = node;
            all.append(' ');
            for (int what = 0; what < 4; what++) {
                all.append(out.known(p, what));
            }
            all.append(out.holds(p, 1, -2)).append(out.alike(p, 0));
            all.append(Checks.outcome(() -> out.pieces(p)));
        }
        return all.toString();
    }

    private static void numberRow() {
        Checks.due("some nodes", NEXT, () -> someNodes().count());
        Checks.due("60 nodes", 60, () -> allNodes().count());
    }

    private void newObject() {
        for (int p : new int[] {-1, 0, 1, 59, 60}) {
            refused("both", INDEX, q -> q.both(p, p));
            refused("either", INDEX, q -> q.either(p, p));
            refused("not", INDEX, q -> q.not(p));
            refused("some", INDEX, q -> q.some(0, p));
            refused("every", INDEX, q -> q.every(0, p));
            refused("known", INDEX, q -> q.known(p, 0));
            refused("holds", INDEX, q -> q.holds(p, 0, 0));
            refused("decide", INDEX, q -> q.decide(p));
            refused("pieces", INDEX, q -> q.pieces(p));
            refused("end", INDEX, q -> q.end(p, 0, 0, 0));
            refused("alike", INDEX, q -> q.alike(p, p));
        }
    }

    private void atom() {
        for (int wrong : new int[] {Integer.MIN_VALUE, -6, 6, Integer.MAX_VALUE}) {
            refused("atom, a", ARGUMENT, q -> q.atom(wrong, 0, 0, 0));
            refused("atom, b", ARGUMENT, q -> q.atom(0, wrong, 0, 0));
            refused("atom, c", ARGUMENT, q -> q.atom(0, 0, wrong, 0));
        }
        for (int wrong : new int[] {Integer.MIN_VALUE, -1, 3, Integer.MAX_VALUE}) {
            refused("atom, op", ARGUMENT, q -> q.atom(0, 0, 0, wrong));
        }
    }

    private void pairs() {
        for (int p : NO_NODE) {
            refused("both, second", INDEX, q -> q.both(ATOM, p));
            refused("both, first", INDEX, q -> q.both(p, ATOM));
            refused("either, second", INDEX, q -> q.either(ATOM, p));
            refused("either, first", INDEX, q -> q.either(p, ATOM));
            refused("both, of a large one", INDEX, q -> q.both(SIZE_6, p));
            refused("either, of a large one", INDEX, q -> q.either(p, SIZE_6));
        }
        refused("both, SIZE 7", ARGUMENT, q -> q.both(SIZE_6, ATOM));
        refused("both, SIZE 7", ARGUMENT, q -> q.both(ATOM, SIZE_6));
        refused("both, SIZE 8", ARGUMENT, q -> q.both(SIZE_4, SIZE_4));
        refused("either, SIZE 7", ARGUMENT, q -> q.either(SIZE_6, ONLY_Y));
        refused("either, SIZE 7", ARGUMENT, q -> q.either(CLOSED, SIZE_6));
        refused("either, SIZE 12", ARGUMENT, q -> q.either(SIZE_6, SIZE_6));
    }

    private void not() {
        for (int p : NO_NODE) {
            refused("not", INDEX, q -> q.not(p));
        }
    }

    private void quantifiers() {
        for (int p : NO_NODE) {
            refused("some", INDEX, q -> q.some(0, p));
            refused("every", INDEX, q -> q.every(1, p));
            refused("some, letter too", INDEX, q -> q.some(2, p));
            refused("every, letter too", INDEX, q -> q.every(-1, p));
        }
        for (int letter : new int[] {Integer.MIN_VALUE, -1, 2, Integer.MAX_VALUE}) {
            refused("some, letter", ARGUMENT, q -> q.some(letter, ATOM));
            refused("every, letter", ARGUMENT, q -> q.every(letter, ATOM));
        }
        for (int p : new int[] {CLOSED, ONLY_X_DEEP, X_AND_Y_DEEP}) {
            for (int l = 0; l < 2; l++) {
                int letter = l;
                refused("some, DEPTH 3", ARGUMENT, q -> q.some(letter, p));
                refused("every, DEPTH 3", ARGUMENT, q -> q.every(letter, p));
            }
        }
    }

    private void known() {
        for (int p : NO_NODE) {
            refused("known", INDEX, q -> q.known(p, 0));
            refused("known, what too", INDEX, q -> q.known(p, 4));
        }
        for (int what : new int[] {Integer.MIN_VALUE, -1, 4, Integer.MAX_VALUE}) {
            refused("known, what", ARGUMENT, q -> q.known(ATOM, what));
        }
    }

    private void holds() {
        for (int p : NO_NODE) {
            refused("holds", INDEX, q -> q.holds(p, 0, 0));
            refused("holds, x, y too", INDEX, q -> q.holds(p, 51, -51));
        }
        for (int value : new int[] {Integer.MIN_VALUE, -51, 51, Integer.MAX_VALUE}) {
            for (int p : new int[] {ATOM, ONLY_X, ONLY_Y, CLOSED}) {
                refused("holds, x, FREE or not", ARGUMENT, q -> q.holds(p, value, 0));
                refused("holds, y, FREE or not", ARGUMENT, q -> q.holds(p, 0, value));
            }
        }
    }

    private void decide() {
        for (int p : NO_NODE) {
            refused("decide", INDEX, q -> q.decide(p));
        }
        for (int p : new int[] {ATOM, ONLY_X, ONLY_Y, ONLY_X_DEEP, SIZE_6, X_AND_Y, X_AND_Y_DEEP}) {
            refused("decide, FREE", STATE, q -> q.decide(p));
        }
    }

    private void pieces() {
        for (int p : NO_NODE) {
            refused("pieces", INDEX, q -> q.pieces(p));
        }
        for (int p : new int[] {ATOM, CLOSED, ONLY_X_DEEP, X_AND_Y, X_AND_Y_DEEP}) {
            refused("pieces, no SET", STATE, q -> q.pieces(p));
        }
    }

    private void end() {
        for (int p : NO_NODE) {
            refused("end", INDEX, q -> q.end(p, 0, 0, 0));
            refused("end, all too", INDEX, q -> q.end(p, -1, 2, 3));
        }
        for (int p : new int[] {ATOM, CLOSED, ONLY_X_DEEP, X_AND_Y, X_AND_Y_DEEP}) {
            refused("end, no SET", STATE, q -> q.end(p, 0, 0, 0));
            refused("end, no SET, piece, side, part", STATE, q -> q.end(p, 1, 2, 3));
        }
        for (int k : new int[] {Integer.MIN_VALUE, -1, 1, 2, Integer.MAX_VALUE}) {
            refused("end, no PIECE", INDEX, q -> q.end(ONLY_X, k, 0, 0));
            refused("end, no PIECE, side, part", INDEX, q -> q.end(ONLY_X, k, -1, -1));
        }
        refused("end, no PIECE in an empty SET", INDEX, q -> q.end(EMPTY, 0, 0, 0));
        refused("end, no PIECE in an empty SET, side", INDEX, q -> q.end(EMPTY, 0, 2, 0));
        for (int wrong : new int[] {Integer.MIN_VALUE, -1, 3, Integer.MAX_VALUE}) {
            refused("end, side", ARGUMENT, q -> q.end(ONLY_X, 0, wrong, 0));
            refused("end, part", ARGUMENT, q -> q.end(ONLY_X, 0, 0, wrong));
        }
        refused("end, side 2", ARGUMENT, q -> q.end(ONLY_X, 0, 2, 1));
    }

    private void alike() {
        for (int p : NO_NODE) {
            refused("alike, first", INDEX, q -> q.alike(p, ATOM));
            refused("alike, second", INDEX, q -> q.alike(ATOM, p));
            refused("alike, both", INDEX, q -> q.alike(p, p));
        }
    }

    private void full() {
        refused("atom", STATE, q -> q.atom(0, 0, 0, 0));
        refused("atom, all too", STATE, q -> q.atom(6, 6, 6, 3));
        refused("both", STATE, q -> q.both(ATOM, ATOM));
        refused("both, SIZE too", STATE, q -> q.both(SIZE_6, SIZE_4));
        refused("both, node too", INDEX, q -> q.both(ATOM, 60));
        refused("either", STATE, q -> q.either(ATOM, ATOM));
        refused("either, SIZE too", STATE, q -> q.either(SIZE_4, SIZE_6));
        refused("either, node too", INDEX, q -> q.either(60, ATOM));
        refused("not", STATE, q -> q.not(ATOM));
        refused("not of not", STATE, q -> q.not(NOT_ONLY_X));
        refused("not, node too", INDEX, q -> q.not(60));
        refused("some", STATE, q -> q.some(0, ATOM));
        refused("some, letter, DEPTH too", STATE, q -> q.some(2, CLOSED));
        refused("some, node too", INDEX, q -> q.some(0, 60));
        refused("every", STATE, q -> q.every(1, ATOM));
        refused("every, letter, DEPTH too", STATE, q -> q.every(-1, CLOSED));
        refused("every, node too", INDEX, q -> q.every(1, -1));
    }
}
