/** Each promise of the document by hand, in ordinary calls. The tests of boundaries have the edges and wrong calls. */
public final class PromisesTest {
    private static final int X = 0;
    private static final int Y = 1;
    private static final int ZERO = 0;
    private static final int BELOW = 1;
    private static final int NOT_ABOVE = 2;

    private final String promise;
    private final QuantifierOut out = new QuantifierOut();

    private PromisesTest(String promise) {
        this.promise = promise;
    }

    public static void main(String[] args) {
        newObject();
        atom();
        pairs();
        not();
        longChainOfNots();
        quantifiers();
        quantifierTruth();
        hiddenLetters();
        known();
        holds();
        decide();
        pieces();
        points();
        crossings();
        end();
        alike();
        alikeLooksAtEachPlace();
        count();
        Checks.finish();
    }

    private void due(String what, Object want, Checks.Call call) {
        Checks.due(promise + ": " + what, want, call);
    }

    private void set(String what, String want, int p) {
        due(what, want, () -> Samples.set(out, p));
    }

    private static void newObject() {
        PromisesTest t = new PromisesTest("promise 1");
        t.due("count()", 0, t.out::count);
        t.out.atom(1, 1, 1, ZERO);
        t.due("another object's count()", 0, () -> new QuantifierOut().count());
    }

    private static void atom() {
        PromisesTest t = new PromisesTest("promise 2");
        QuantifierOut out = t.out;
        t.due("atom(5, -5, 5, 0)", 0, () -> out.atom(5, -5, 5, ZERO));
        t.due("atom(-5, 5, -5, 1)", 1, () -> out.atom(-5, 5, -5, BELOW));
        t.due("atom(0, 0, 0, 2)", 2, () -> out.atom(0, 0, 0, NOT_ABOVE));
        t.due("the same again", 3, () -> out.atom(0, 0, 0, NOT_ABOVE));
        t.due("0 isn't above 0", 1, () -> out.holds(2, 3, 4));
        int below = out.atom(0, 0, 0, BELOW);
        t.due("0 is below 0", 0, () -> out.holds(below, 3, 4));
        for (int op = 0; op < 3; op++) {
            int p = out.atom(2, -3, 1, op);
            for (int x = -4; x <= 4; x++) {
                for (int y = -4; y <= 4; y++) {
                    int sum = 2 * x - 3 * y + 1;
                    boolean truth = op == ZERO ? sum == 0 : op == BELOW ? sum < 0 : sum <= 0;
                    int atX = x;
                    int atY = y;
                    t.due("op " + op + " at " + x + ", " + y, truth ? 1 : 0, () -> out.holds(p, atX, atY));
                }
            }
        }
    }

    private static void pairs() {
        PromisesTest t = new PromisesTest("promises 3, 4");
        QuantifierOut out = t.out;
        int high = out.atom(1, 0, -1, BELOW);
        int low = out.atom(0, 1, -1, BELOW);
        t.due("both", 2, () -> out.both(high, low));
        t.due("either", 3, () -> out.either(high, low));
        t.due("both of true, true", 1, () -> out.holds(2, 0, 0));
        t.due("both of true, false", 0, () -> out.holds(2, 0, 1));
        t.due("both of false, true", 0, () -> out.holds(2, 1, 0));
        t.due("both of false, false", 0, () -> out.holds(2, 1, 1));
        t.due("either of true, true", 1, () -> out.holds(3, 0, 0));
        t.due("either of true, false", 1, () -> out.holds(3, 0, 1));
        t.due("either of false, true", 1, () -> out.holds(3, 1, 0));
        t.due("either of false, false", 0, () -> out.holds(3, 1, 1));
        int three = out.both(2, 0);
        t.due("one twice, SIZE 6", 5, () -> out.both(three, three));
        t.due("one twice, SIZE 6", 6, () -> out.either(three, three));
        t.due("SIZE", 6, () -> out.known(6, 2));
        t.due("truth", 1, () -> out.holds(6, 0, 0));
    }

    private static void not() {
        PromisesTest t = new PromisesTest("promise 5");
        QuantifierOut out = t.out;
        out.atom(1, 1, 0, BELOW);
        t.due("not", 1, () -> out.not(0));
        t.due("not of not", 2, () -> out.not(1));
        t.due("not again", 3, () -> out.not(0));
        t.due("below", 0, () -> out.holds(1, -1, 0));
        t.due("at 0", 1, () -> out.holds(1, 0, 0));
        t.due("above", 1, () -> out.holds(1, 0, 1));
        t.due("not of not below", 1, () -> out.holds(2, -1, 0));
        t.due("not of not at 0", 0, () -> out.holds(2, 0, 0));
        out.some(Y, 2);
        out.not(4);
        for (int what = 0; what < 4; what++) {
            int asked = what;
            t.due("known " + what, out.known(4, what), () -> out.known(5, asked));
        }
    }

    private static void longChainOfNots() {
        PromisesTest t = new PromisesTest("promise 5, a chain");
        QuantifierOut out = t.out;
        out.some(Y, out.atom(1, 0, 0, BELOW));
        for (int p = 2; p < 60; p++) {
            int made = p;
            t.due("number", made, () -> out.not(made - 1));
            t.due("truth", p % 2, () -> out.holds(made, -1, 0));
            t.due("alike", p % 2, () -> out.alike(made, 1));
        }
        t.set("not, 57 times", "[0/1 -)", 58);
        t.set("not, 58 times", "(- 0/1)", 59);
    }

    private static void quantifiers() {
        PromisesTest t = new PromisesTest("promises 6, 7");
        QuantifierOut out = t.out;
        out.atom(1, -1, 0, BELOW);
        t.due("some x", 1, () -> out.some(X, 0));
        t.due("some y", 2, () -> out.some(Y, 0));
        t.due("every x", 3, () -> out.every(X, 0));
        t.due("every y", 4, () -> out.every(Y, 0));
        t.due("some x of DEPTH 1", 5, () -> out.some(X, 1));
        t.due("every y of DEPTH 1", 6, () -> out.every(Y, 1));
        t.due("both of DEPTH 2", 7, () -> out.both(0, 6));
    }

    private static void quantifierTruth() {
        PromisesTest t = new PromisesTest("promises 6, 7");
        QuantifierOut out = t.out;
        int half = out.atom(2, 0, -1, ZERO);
        int someHalf = out.some(X, half);
        int noHalf = out.every(X, out.not(half));
        t.due("a fraction that is no whole number counts", 1, () -> out.holds(someHalf, 0, 0));
        t.due("every fraction is looked at", 0, () -> out.holds(noHalf, 0, 0));
        int between = out.some(X, out.both(out.atom(-5, 0, 4, BELOW), out.atom(5, 0, -5, BELOW)));
        t.due("4/5 < x < 1", 1, () -> out.holds(between, 0, 0));
        int less = out.atom(1, -1, 0, BELOW);
        int greater = out.every(X, out.some(Y, less));
        int greatest = out.some(Y, out.every(X, less));
        int least = out.some(X, out.every(Y, less));
        t.due("each has a greater one", 1, () -> out.decide(greater));
        t.due("one is greater than all", 0, () -> out.decide(greatest));
        t.due("one is below all", 0, () -> out.decide(least));
        int third = out.every(Y, out.some(X, out.atom(3, -1, 0, ZERO)));
        t.due("each has its third part", 1, () -> out.decide(third));
    }

    private static void hiddenLetters() {
        PromisesTest t = new PromisesTest("promises 6, 7: where it is FREE");
        QuantifierOut out = t.out;
        int isOne = out.atom(1, 0, -1, ZERO);
        int someTwo = out.some(X, out.atom(1, 0, -2, ZERO));
        int ahead = out.some(X, out.both(isOne, someTwo));
        int behind = out.some(X, out.both(someTwo, isOne));
        t.due("x inside is another x", 1, () -> out.holds(ahead, 7, 7));
        t.due("x is the same again behind it", 1, () -> out.holds(behind, 7, 7));
        int tie = out.both(someTwo, isOne);
        t.due("x is the same again behind some x", 1, () -> out.holds(tie, 1, 0));
        t.due("x is the same again behind some x", 0, () -> out.holds(tie, 2, 0));
        int sum = out.atom(1, 1, 0, ZERO);
        int deep = out.some(X, out.both(sum, out.every(Y, out.either(out.atom(1, 0, -2, ZERO), sum))));
        t.due("DEPTH 2 with y FREE: y is -2", 1, () -> out.holds(deep, 0, -2));
        t.due("DEPTH 2 with y FREE: y is 2", 0, () -> out.holds(deep, 0, 2));
        int twice = out.some(X, out.every(X, out.atom(0, 1, 0, BELOW)));
        t.due("the same letter twice", 1, () -> out.holds(twice, 0, -1));
        t.due("the same letter twice", 0, () -> out.holds(twice, 0, 0));
    }

    private static void known() {
        PromisesTest t = new PromisesTest("promise 8");
        QuantifierOut out = t.out;
        out.atom(0, 0, 5, ZERO);
        out.some(X, 0);
        out.every(Y, 0);
        out.both(1, 2);
        out.every(Y, 1);
        out.some(X, 1);
        out.either(4, 1);
        out.not(3);
        out.both(1, 1);
        String[] want = {"1110", "0111", "1011", "1121", "0012", "0112", "0122", "1121", "0121"};
        for (int node = 0; node < want.length; node++) {
            for (int what = 0; what < 4; what++) {
                int p = node;
                int asked = what;
                t.due("known(" + p + ", " + what + ")", want[node].charAt(what), () -> out.known(p, asked));
            }
        }
    }

    private static void holds() {
        PromisesTest t = new PromisesTest("promise 9");
        QuantifierOut out = t.out;
        int same = out.atom(1, -1, 0, ZERO);
        t.due("50, 50", 1, () -> out.holds(same, 50, 50));
        t.due("-50, -50", 1, () -> out.holds(same, -50, -50));
        t.due("-50, 50", 0, () -> out.holds(same, -50, 50));
        int hidden = out.some(Y, out.both(same, out.atom(0, 1, -3, ZERO)));
        t.due("only x is FREE", 1, () -> out.holds(hidden, 3, -50));
        t.due("only x is FREE", 0, () -> out.holds(hidden, 4, 3));
        int far = out.some(X, out.both(out.atom(5, -5, 5, ZERO), out.every(Y, out.atom(1, 0, -5, BELOW))));
        t.due("y is 5, x is 4", 1, () -> out.holds(far, 0, 5));
        t.due("y is 6, x is 5", 0, () -> out.holds(far, 0, 6));
        t.due("y is 50, x is 49", 0, () -> out.holds(far, 0, 50));
        t.due("y is -50, x is -51", 1, () -> out.holds(far, 0, -50));
    }

    private static void decide() {
        PromisesTest t = new PromisesTest("promise 10");
        QuantifierOut out = t.out;
        int atY = out.some(X, out.both(out.atom(1, 1, -3, ZERO), out.atom(1, -1, -1, ZERO)));
        int somewhere = out.some(Y, atY);
        int everywhere = out.every(Y, atY);
        int neither = out.not(out.either(out.not(somewhere), everywhere));
        t.due("the lines meet", 1, () -> out.decide(somewhere));
        t.due("at every y", 0, () -> out.decide(everywhere));
        t.due("made of both", 1, () -> out.decide(neither));
    }

    private static void pieces() {
        PromisesTest t = new PromisesTest("promises 11, 12");
        QuantifierOut out = t.out;
        int isOne = out.some(Y, out.atom(-4, 0, 4, ZERO));
        int belowOne = out.some(Y, out.atom(2, 0, -2, BELOW));
        int fromHalf = out.every(Y, out.atom(-4, 0, -2, NOT_ABOVE));
        t.set("one fraction", "[1/1 1/1]", isOne);
        t.set("all but one", "(- 1/1)(1/1 -)", out.not(isOne));
        t.set("open on the right", "(- 1/1)", belowOne);
        t.set("closed on the left", "[-1/2 -)", fromHalf);
        t.set("between", "[-1/2 1/1)", out.both(belowOne, fromHalf));
        t.set("outside", "(- -1/2)[1/1 -)", out.not(out.both(belowOne, fromHalf)));
        t.set("overlapping", "(- -)", out.either(belowOne, fromHalf));
        t.set("touching", "(- 1/1]", out.either(belowOne, isOne));
        t.set("all", "(- -)", out.either(belowOne, out.not(belowOne)));
        t.set("none", "", out.both(belowOne, out.not(belowOne)));
        t.set("a gap filled", "(- -)", out.either(isOne, out.not(isOne)));
        t.set("true without x, y", "(- -)", out.some(X, out.atom(0, 0, -1, BELOW)));
        t.set("false without x, y", "", out.some(X, out.atom(0, 0, 1, BELOW)));
        t.set("of y", "(- -2/3]", out.some(X, out.atom(0, 3, 2, NOT_ABOVE)));
        t.set("an END at 0", "[0/1 0/1]", out.every(Y, out.atom(3, 0, 0, ZERO)));
    }

    /** As many PIECES as six equations give. */
    private static void points() {
        PromisesTest t = new PromisesTest("promises 11, 12");
        QuantifierOut out = t.out;
        int[][] lines = {{1, 5}, {1, -5}, {2, 1}, {3, -1}, {5, 4}, {4, -5}};
        int all = out.atom(lines[0][0], 0, lines[0][1], ZERO);
        for (int i = 1; i < lines.length; i++) {
            all = out.either(all, out.atom(lines[i][0], 0, lines[i][1], ZERO));
        }
        int points = out.some(Y, all);
        t.set("points", "[-5/1 -5/1][-4/5 -4/5][-1/2 -1/2][1/3 1/3][5/4 5/4][5/1 5/1]", points);
        t.set("gaps", "(- -5/1)(-5/1 -4/5)(-4/5 -1/2)(-1/2 1/3)(1/3 5/4)(5/4 5/1)(5/1 -)", out.not(points));
    }

    private static void crossings() {
        PromisesTest t = new PromisesTest("promises 11, 12");
        QuantifierOut out = t.out;
        int corner = out.both(out.atom(5, 4, -3, NOT_ABOVE), out.atom(4, -5, -2, BELOW));
        t.set("left of a corner", "(- 23/41)", out.some(Y, corner));
        t.set("no corner seen from y", "(- -)", out.some(X, corner));
        int wedge = out.both(out.atom(1, 1, 0, NOT_ABOVE), out.atom(-1, 1, 0, NOT_ABOVE));
        t.set("a wedge", "(- 0/1]", out.some(X, wedge));
        t.set("nowhere all of a line", "", out.every(X, wedge));
        int first = out.atom(5, 4, 1, ZERO);
        int second = out.atom(-4, 5, 3, ZERO);
        int third = out.atom(3, -5, -2, ZERO);
        int atFirst = out.some(Y, out.both(first, second));
        int atSecond = out.some(Y, out.both(second, third));
        int last = out.atom(1, 2, 5, ZERO);
        int atThird = out.some(Y, out.both(third, last));
        int all = out.either(atFirst, out.either(atSecond, atThird));
        t.set("where lines meet", "[-21/11 -21/11][7/41 7/41][1/1 1/1]", all);
        t.set("but there", "(- -21/11)(-21/11 7/41)(7/41 1/1)(1/1 -)", out.not(all));
        int apart = out.some(Y, out.both(first, out.not(second)));
        t.set("where two of them don't", "(- 7/41)(7/41 -)", apart);
    }

    private static void end() {
        PromisesTest t = new PromisesTest("promise 12");
        QuantifierOut out = t.out;
        int below = out.some(Y, out.atom(4, 0, 2, BELOW));
        int from = out.some(Y, out.atom(-4, 0, 2, NOT_ABOVE));
        long[][] want = {{0, 0, 1, 1, -1, 2}, {2, 1, 2, 0, 0, 1}};
        for (int i = 0; i < 12; i++) {
            // Asking for one and the other by turns, as an answer must not be the last NODE's.
            int p = i % 2 == 0 ? below : from;
            int side = i / 2 / 3;
            int part = i / 2 % 3;
            t.due("end(" + p + ", 0, " + side + ", " + part + ")", want[i % 2][i / 2],
                () -> out.end(p, 0, side, part));
        }
    }

    private static void alike() {
        PromisesTest t = new PromisesTest("promise 13");
        QuantifierOut out = t.out;
        int upToTwo = out.atom(1, 0, -2, NOT_ABOVE);
        int belowThree = out.atom(1, 0, -3, BELOW);
        int belowTwo = out.atom(1, 0, -2, BELOW);
        int half = out.atom(2, 0, -1, ZERO);
        int never = out.atom(0, 0, 1, ZERO);
        int someY = out.some(Y, belowTwo);
        int someX = out.some(X, belowTwo);
        t.due("itself", 1, () -> out.alike(upToTwo, upToTwo));
        t.due("they differ between whole numbers", 1, () -> out.alike(upToTwo, belowThree));
        t.due("they differ at 2", 0, () -> out.alike(upToTwo, belowTwo));
        t.due("the other way round", 0, () -> out.alike(belowTwo, upToTwo));
        t.due("no whole number", 1, () -> out.alike(half, never));
        t.due("some y changes nothing", 1, () -> out.alike(belowTwo, someY));
        t.due("some x does", 0, () -> out.alike(belowTwo, someX));
        t.due("true at all of them", 1, () -> out.alike(someX, upToTwo));
        int isTwo = out.both(upToTwo, out.not(belowTwo));
        int two = out.atom(1, 0, -2, ZERO);
        t.due("both", 1, () -> out.alike(isTwo, two));
        t.due("either", 1, () -> out.alike(out.either(belowTwo, two), upToTwo));
        int mirror = out.some(X, out.atom(0, 1, -2, BELOW));
        t.due("x isn't y", 0, () -> out.alike(someY, mirror));
        int three = out.atom(1, 0, -3, ZERO);
        int minusThree = out.atom(0, 1, 3, ZERO);
        t.due("3 isn't looked at", 1, () -> out.alike(three, never));
        t.due("-3 isn't looked at", 1, () -> out.alike(minusThree, never));
    }

    private static void alikeLooksAtEachPlace() {
        for (int x = -2; x <= 2; x++) {
            for (int y = -2; y <= 2; y++) {
                PromisesTest t = new PromisesTest("promise 13 at " + x + ", " + y);
                QuantifierOut out = t.out;
                int never = out.atom(0, 0, 1, ZERO);
                int there = out.both(out.atom(1, 0, -x, ZERO), out.atom(0, 1, -y, ZERO));
                t.due("there", 0, () -> out.alike(there, never));
                t.due("but there", 0, () -> out.alike(out.not(there), out.not(never)));
                t.due("all", 1, () -> out.alike(out.either(there, out.not(there)), out.not(never)));
            }
        }
    }

    private static void count() {
        PromisesTest t = new PromisesTest("promise 14");
        QuantifierOut out = t.out;
        for (int made = 0; made < 60; made++) {
            int want = made;
            t.due("ahead", want, out::count);
            t.due("number", want, () -> out.atom(0, 0, 0, ZERO));
        }
        t.due("all", 60, out::count);
    }
}
