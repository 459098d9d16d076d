import java.util.ArrayList;
import java.util.List;
import java.util.function.Function;

/** The boundary cases that the document names ahead of its promises: each method is that of the sentence in it. */
public final class TermsBoundariesTest extends Samples {
    public static void main(String[] args) {
        anyFractions();
        atMost512Calls();
        numbersFrom0On();
        atMost60Nodes();
        whatAnAtomSays();
        madeOfNodesAheadOfThem();
        someAndEvery();
        freeInAtomsAndPairs();
        freeUnderQuantifiers();
        freeAlsoWhereAIs0();
        size();
        depth();
        sizeAtMost6();
        depthAtMost2();
        sixLinesAtDepth2();
        theSet();
        setOfPieces();
        asFewPiecesAsCanBe();
        noSuchNode();
        noSuchPiece();
        sixtyNodesAreThere();
        asSaid();
        firstBehindThrows();
        nothingChanges();
        Checks.finish();
    }

    private static Sentence terms(String words) {
        return new Sentence("Terms", words);
    }

    private static void anyFractions() {
        Sentence s = new Sentence("What it is", "x and y stand for any fractions.");
        QuantifierOut out = new QuantifierOut();
        int thin = out.both(out.atom(-5, 0, 4, BELOW), out.atom(4, 0, -4, BELOW));
        s.due("4/5 < x < 1, between whole numbers", true, () -> out.holds(out.some(X, thin), 0, 0));
        s.due("nor is there every one", true, () -> out.holds(out.not(out.every(X, out.not(thin))), 0, 0));
        int far = out.some(X, out.atom(1, -5, 5, ZERO));
        s.due("x = 245, where holds takes no such x", true, () -> out.holds(far, 0, 50));
        s.due("x = -255", true, () -> out.holds(far, 0, -50));
        int bounded = out.every(X, out.some(Y, out.atom(5, 1, 0, ZERO)));
        s.due("y = -5 x for all of them", true, () -> out.decide(bounded));
    }

    private static void atMost512Calls() {
        Sentence s = new Sentence("What it is", "An object is used for at most 512 calls after it has been made");
        lastCall(s, "atom", "" + SOME_NODES, q -> q.atom(5, 5, 5, NOT_ABOVE));
        lastCall(s, "both", "" + SOME_NODES, q -> q.both(SIZE_3, SIZE_3));
        lastCall(s, "either", "" + SOME_NODES, q -> q.either(SIZE_3, SIZE_3));
        lastCall(s, "not", "" + SOME_NODES, q -> q.not(SIZE_6));
        lastCall(s, "some", "" + SOME_NODES, q -> q.some(X, ONLY_X));
        lastCall(s, "every", "" + SOME_NODES, q -> q.every(Y, ONLY_X));
        lastCall(s, "known", 6, q -> q.known(SIZE_6, 2));
        lastCall(s, "holds", true, q -> q.holds(ATOM, -1, 0));
        lastCall(s, "decide", true, q -> q.decide(CLOSED));
        lastCall(s, "pieces", 2, q -> q.pieces(TWO_PIECES));
        lastCall(s, "end", -3, q -> q.end(TWO_PIECES, 1, 0, 1));
        lastCall(s, "alike", true, q -> q.alike(ATOM, ONLY_X));
        lastCall(s, "count", SOME_NODES, QuantifierOut::count);
        lastCall(s, "a refused one", STATE, q -> q.decide(ATOM));
    }

    /** Call 512, behind the calls that make the NODES and then questions, every third of them refused. */
    private static void lastCall(Sentence s, String call, Object want, Function<QuantifierOut, Object> last) {
        QuantifierOut out = someNodes();
        for (int made = SOME_NODES; made < MOST_CALLS - 1; made++) {
            int turn = made;
            Checks.outcome(() -> turn % 3 == 0 ? out.pieces(ATOM) : turn % 3 == 1 ? out.pieces(ONLY_X)
                : out.alike(turn % SOME_NODES, CLOSED) ? 1 : 0);
        }
        s.due("call 512, " + call, want, () -> last.apply(out));
    }

    private static void numbersFrom0On() {
        Sentence s = terms("NODES have numbers from 0 on in the order in which they were made");
        QuantifierOut out = new QuantifierOut();
        s.due("the first", 0, () -> out.atom(0, 0, 0, ZERO));
        s.due("not", 1, () -> out.not(0));
        s.due("some", 2, () -> out.some(X, 0));
        s.due("every", 3, () -> out.every(Y, 0));
        s.due("both", 4, () -> out.both(0, 1));
        s.due("either", 5, () -> out.either(2, 3));
        s.due("the same atom again", 6, () -> out.atom(0, 0, 0, ZERO));
        s.due("the same some again", 7, () -> out.some(X, 0));
        s.due("the same both again", 8, () -> out.both(0, 1));
        s.due("not of not", 9, () -> out.not(1));
        s.due("a refused one", ARGUMENT, () -> out.atom(6, 0, 0, ZERO));
        s.due("the next behind a refused one", 10, () -> out.every(X, 1));
        s.due("another object's first", 0, () -> new QuantifierOut().atom(0, 0, 0, ZERO));
        s.due("SIZE of the first, seen behind all", 1, () -> out.known(0, 2));
        s.due("DEPTH of the last", 1, () -> out.known(10, 3));
    }

    private static void atMost60Nodes() {
        Sentence s = terms("at most 60");
        List<Function<QuantifierOut, Object>> makers = new ArrayList<>();
        makers.add(q -> q.atom(1, 1, 1, ZERO));
        makers.add(q -> q.both(ATOM, ATOM));
        makers.add(q -> q.either(ATOM, ATOM));
        makers.add(q -> q.not(ATOM));
        makers.add(q -> q.some(X, ATOM));
        makers.add(q -> q.every(Y, ATOM));
        for (int maker = 0; maker < makers.size(); maker++) {
            QuantifierOut out = roomFor(2);
            Function<QuantifierOut, Object> make = makers.get(maker);
            s.due("NODE 58, maker " + maker, 58, () -> make.apply(out));
            s.due("NODE 59, maker " + maker, 59, () -> make.apply(out));
            s.due("NODE 60, maker " + maker, STATE, () -> make.apply(out));
            s.due("60 are there, maker " + maker, 60, out::count);
            s.due("NODE 59 is asked about, maker " + maker, out.known(58, 2), () -> out.known(59, 2));
        }
    }

    private static void whatAnAtomSays() {
        Sentence s = terms("An ATOM says that a x + b y + c is 0, is below 0, or isn't above 0, for whole numbers "
            + "a, b, c, -5 .. 5.");
        QuantifierOut out = new QuantifierOut();
        int[][] factors = {{5, 0, 0}, {-5, 0, 0}, {0, 5, 0}, {0, -5, 0}, {5, 5, 5}, {-5, -5, -5}, {5, -5, 5}, {0, 0, 5},
            {0, 0, -5}, {0, 0, 0}, {1, 1, 1}, {-1, 4, -3}};
        for (int[] factor : factors) {
            for (int op = 0; op < 3; op++) {
                int p = out.atom(factor[0], factor[1], factor[2], op);
                for (int place = 0; place < 9; place++) {
                    int x = place / 3 - 1;
                    int y = place % 3 - 1;
                    int sum = factor[0] * x + factor[1] * y + factor[2];
                    boolean truth = op == ZERO ? sum == 0 : op == BELOW ? sum < 0 : sum <= 0;
                    s.due("NODE " + p + " at " + x + ", " + y, truth, () -> out.holds(p, x, y));
                }
            }
        }
    }

    private static void madeOfNodesAheadOfThem() {
        Sentence s = terms("Other NODES are made of one or two made ahead of them");
        s.due("both of the last made, twice", SOME_NODES, () -> someNodes().both(X_Y_DEPTH_2, X_Y_DEPTH_2));
        s.due("either of the last made and the first", SOME_NODES, () -> someNodes().either(X_Y_DEPTH_2, 0));
        s.due("both of the first and the last made", SOME_NODES, () -> someNodes().both(0, X_Y_DEPTH_2));
        s.due("not of the last made", SOME_NODES, () -> someNodes().not(X_Y_DEPTH_2));
        s.due("not of the first", SOME_NODES, () -> someNodes().not(0));
        s.refused("both of itself", INDEX, q -> q.both(SOME_NODES, SOME_NODES));
        s.refused("both, its second itself", INDEX, q -> q.both(0, SOME_NODES));
        s.refused("either, its first itself", INDEX, q -> q.either(SOME_NODES, 0));
        s.refused("either, its second itself", INDEX, q -> q.either(0, SOME_NODES));
        s.refused("not of itself", INDEX, q -> q.not(SOME_NODES));
        s.refused("some of itself", INDEX, q -> q.some(X, SOME_NODES));
        s.refused("every of itself", INDEX, q -> q.every(Y, SOME_NODES));
        pairsOfTruths();
    }

    private static void pairsOfTruths() {
        Sentence s = terms("BOTH (of two), EITHER (at least one of two), NOT");
        QuantifierOut out = new QuantifierOut();
        int left = out.atom(1, 0, 0, ZERO);
        int right = out.atom(0, 1, 0, ZERO);
        int both = out.both(left, right);
        int either = out.either(left, right);
        int not = out.not(left);
        s.due("both, neither is true", false, () -> out.holds(both, 1, 1));
        s.due("both, the first is", false, () -> out.holds(both, 0, 1));
        s.due("both, the second is", false, () -> out.holds(both, 1, 0));
        s.due("both are", true, () -> out.holds(both, 0, 0));
        s.due("either, neither is true", false, () -> out.holds(either, 1, 1));
        s.due("either, the first is", true, () -> out.holds(either, 0, 1));
        s.due("either, the second is", true, () -> out.holds(either, 1, 0));
        s.due("either, both are", true, () -> out.holds(either, 0, 0));
        s.due("not of true", false, () -> out.holds(not, 0, 0));
        s.due("not of false", true, () -> out.holds(not, 1, 0));
        int same = out.both(left, left);
        s.due("one twice, true", true, () -> out.holds(same, 0, 5));
        s.due("one twice, false", false, () -> out.holds(same, 5, 5));
    }

    private static void someAndEvery() {
        Sentence s = terms("SOME x (or y): there is a fraction that, put in place of x (y) where it is FREE, makes the "
            + "NODE true; EVERY x (y): all do.");
        QuantifierOut out = new QuantifierOut();
        int third = out.atom(3, 1, -1, ZERO);
        int butThird = out.not(third);
        int never = out.both(third, butThird);
        int always = out.either(third, butThird);
        for (int letter = X; letter <= Y; letter++) {
            int some = out.some(letter, third);
            int every = out.every(letter, third);
            int someNot = out.some(letter, butThird);
            int everyNot = out.every(letter, butThird);
            int someNever = out.some(letter, never);
            int everyAlways = out.every(letter, always);
            String of = " letter " + letter;
            s.due("some, one fraction does," + of, true, () -> out.holds(some, 0, 0));
            s.due("every, one fraction does," + of, false, () -> out.holds(every, 0, 0));
            s.due("some, all but one do," + of, true, () -> out.holds(someNot, 0, 0));
            s.due("every, all but one do," + of, false, () -> out.holds(everyNot, 0, 0));
            s.due("some, none does," + of, false, () -> out.holds(someNever, 0, 0));
            s.due("every, all do," + of, true, () -> out.holds(everyAlways, 0, 0));
        }
        int onlyY = out.some(X, out.atom(0, 1, -2, ZERO));
        int again = out.every(X, onlyY);
        s.due("x isn't FREE there, y is 2", true, () -> out.holds(again, 9, 2));
        s.due("x isn't FREE there, y is 3", false, () -> out.holds(again, 2, 3));
        putWhereItIsFree(s);
    }

    private static void putWhereItIsFree(Sentence s) {
        QuantifierOut out = new QuantifierOut();
        int isOne = out.atom(1, 0, -1, ZERO);
        int someTwo = out.some(X, out.atom(1, 0, -2, ZERO));
        int everyBelow = out.every(X, out.atom(1, 0, -2, BELOW));
        int ahead = out.some(X, out.both(isOne, someTwo));
        int behind = out.some(X, out.both(someTwo, isOne));
        int never = out.some(X, out.both(isOne, everyBelow));
        s.due("x inside is another x", true, () -> out.holds(ahead, 7, 7));
        s.due("x is the same again behind it", true, () -> out.holds(behind, 7, 7));
        s.due("every x inside isn't just 1", false, () -> out.holds(never, 1, 1));
        int free = out.both(someTwo, isOne);
        s.due("FREE beside some x, x is 1", true, () -> out.holds(free, 1, 0));
        s.due("FREE beside some x, x is 2", false, () -> out.holds(free, 2, 0));
    }

    private static void isFree(Sentence s, QuantifierOut out, String what, int letters, int p) {
        s.due(what + ", x", letters & 1, () -> out.known(p, 0));
        s.due(what + ", y", letters >> 1, () -> out.known(p, 1));
    }

    private static void freeInAtomsAndPairs() {
        Sentence s = terms("x (or y) is FREE in an ATOM; in BOTH, EITHER, NOT if it is in one that it is made of");
        QuantifierOut out = someNodes();
        int[] byLetters = {CLOSED, ONLY_X, ONLY_Y, ATOM};
        for (int left = 0; left < 4; left++) {
            int p = byLetters[left];
            isFree(s, out, "NODE " + p, left, p);
            if (left != 3) {
                isFree(s, out, "not of " + p, left, out.not(p));
            }
            for (int right = 0; right < 4; right++) {
                int q = byLetters[right];
                isFree(s, out, "both of " + p + ", " + q, left | right, out.both(p, q));
                isFree(s, out, "either of " + p + ", " + q, left | right, out.either(p, q));
            }
        }
        isFree(s, out, "not of an ATOM", 3, out.not(ATOM));
    }

    private static void freeUnderQuantifiers() {
        Sentence s = terms("in SOME y, EVERY y (or x) if it is in that; y (x) never is there.");
        QuantifierOut out = someNodes();
        isFree(s, out, "some x of an ATOM", 2, out.some(X, ATOM));
        isFree(s, out, "every x of an ATOM", 2, out.every(X, ATOM));
        isFree(s, out, "some y of an ATOM", 1, out.some(Y, ATOM));
        isFree(s, out, "every y of an ATOM", 1, out.every(Y, ATOM));
        isFree(s, out, "some x where only x is", 0, out.some(X, ONLY_X));
        isFree(s, out, "every x where only x is", 0, out.every(X, ONLY_X));
        isFree(s, out, "some y where only x is", 1, out.some(Y, ONLY_X));
        isFree(s, out, "every y where only x is", 1, out.every(Y, ONLY_X));
        isFree(s, out, "some x where only y is", 2, out.some(X, ONLY_Y));
        isFree(s, out, "every x where only y is", 2, out.every(X, ONLY_Y));
        isFree(s, out, "some y where only y is", 0, out.some(Y, ONLY_Y));
        isFree(s, out, "every y where only y is", 0, out.every(Y, ONLY_Y));
    }

    private static void freeAlsoWhereAIs0() {
        Sentence s = terms("(Also where a is 0.)");
        QuantifierOut out = new QuantifierOut();
        isFree(s, out, "a is 0", 3, out.atom(0, 1, 1, BELOW));
        isFree(s, out, "b is 0", 3, out.atom(1, 0, 1, BELOW));
        isFree(s, out, "a and b are 0", 3, out.atom(0, 0, -1, BELOW));
        isFree(s, out, "all are 0", 3, out.atom(0, 0, 0, ZERO));
        isFree(s, out, "some y where a and b are 0", 1, out.some(Y, 2));
        isFree(s, out, "every x where a and b are 0", 2, out.every(X, 2));
        s.due("decide, a and b are 0", STATE, () -> out.decide(2));
        s.due("pieces, b is 0", STATE, () -> out.pieces(1));
        s.due("decide, some y where a and b are 0", STATE, () -> out.decide(4));
        s.set("SET of some y where a and b are 0", "(- -)", out, 4);
    }

    private static void size() {
        Sentence s = terms("SIZE is 1 of an ATOM, that of the one or both together of others.");
        QuantifierOut out = someNodes();
        for (int left = 1; left <= 6; left++) {
            int p = OF_SIZE[left];
            int not = out.not(p);
            s.due("SIZE " + left, left, () -> out.known(p, 2));
            s.due("not of SIZE " + left, left, () -> out.known(not, 2));
            for (int right = 1; left + right <= 6; right++) {
                int pair = left % 2 == 0 ? out.both(p, OF_SIZE[right]) : out.either(p, OF_SIZE[right]);
                s.due("SIZE " + left + " and " + right, left + right, () -> out.known(pair, 2));
            }
        }
        s.due("some y of SIZE 6", 6, () -> out.known(out.some(Y, SIZE_6), 2));
        s.due("every x of SIZE 6", 6, () -> out.known(out.every(X, SIZE_6), 2));
        s.due("some x of SIZE 1", 1, () -> out.known(ONLY_X, 2));
        s.due("every x of SIZE 1", 1, () -> out.known(ONLY_Y, 2));
        int twins = out.both(SIZE_3, SIZE_3);
        s.due("one twice counts twice", 6, () -> out.known(twins, 2));
    }

    private static void depth() {
        Sentence s = terms("DEPTH is 0 of an ATOM, the greater one of what it is made of, 1 more of SOME and EVERY.");
        QuantifierOut out = someNodes();
        int[] ofDepth = {ATOM, ONLY_X, CLOSED};
        for (int left = 0; left <= 2; left++) {
            int p = ofDepth[left];
            int not = out.not(p);
            s.due("DEPTH " + left, left, () -> out.known(p, 3));
            s.due("not of DEPTH " + left, left, () -> out.known(not, 3));
            for (int right = 0; right <= 2; right++) {
                int both = out.both(p, ofDepth[right]);
                int either = out.either(p, ofDepth[right]);
                int want = Math.max(left, right);
                s.due("both of DEPTH " + left + " and " + right, want, () -> out.known(both, 3));
                s.due("either of DEPTH " + left + " and " + right, want, () -> out.known(either, 3));
            }
        }
        for (int letter = X; letter <= Y; letter++) {
            for (int below = 0; below <= 1; below++) {
                int some = out.some(letter, ofDepth[below]);
                int every = out.every(letter, ofDepth[below]);
                s.due("some " + letter + " of DEPTH " + below, below + 1, () -> out.known(some, 3));
                s.due("every " + letter + " of DEPTH " + below, below + 1, () -> out.known(every, 3));
            }
        }
    }

    private static void sizeAtMost6() {
        Sentence s = terms("No NODE has a SIZE above 6");
        s.due("both of SIZE 5 and 1", SOME_NODES, () -> someNodes().both(SIZE_5, ATOM));
        s.due("either of SIZE 3 and 3", SOME_NODES, () -> someNodes().either(SIZE_3, SIZE_3));
        s.due("not of SIZE 6", SOME_NODES, () -> someNodes().not(SIZE_6));
        s.due("some of SIZE 6", SOME_NODES, () -> someNodes().some(X, SIZE_6));
        s.due("every of SIZE 6", SOME_NODES, () -> someNodes().every(Y, SIZE_6));
        s.refused("both of SIZE 6 and 1", ARGUMENT, q -> q.both(SIZE_6, ATOM));
        s.refused("either of SIZE 1 and 6", ARGUMENT, q -> q.either(ATOM, SIZE_6));
    }

    private static void depthAtMost2() {
        Sentence s = terms("or a DEPTH above 2.");
        s.due("some of DEPTH 1", SOME_NODES, () -> someNodes().some(X, ONLY_X));
        s.due("every of DEPTH 1", SOME_NODES, () -> someNodes().every(Y, ONLY_X));
        s.due("not of DEPTH 2", SOME_NODES, () -> someNodes().not(CLOSED));
        s.due("both of DEPTH 2 and 2", SOME_NODES, () -> someNodes().both(CLOSED, X_Y_DEPTH_2));
        s.due("either of DEPTH 2 and 0", SOME_NODES, () -> someNodes().either(CLOSED, ATOM));
        s.refused("some of DEPTH 2", ARGUMENT, q -> q.some(X, CLOSED));
        s.refused("every of DEPTH 2", ARGUMENT, q -> q.every(Y, X_Y_DEPTH_2));
    }

    /** A NODE of the greatest SIZE and DEPTH: where any two of its six lines meet counts, and no other place does. */
    private static void sixLinesAtDepth2() {
        Sentence s = terms("No NODE has a SIZE above 6, or a DEPTH above 2.");
        for (int i = 0; i < 6; i++) {
            for (int j = 0; j < 6; j++) {
                if (i != j) {
                    meeting(s, i, j);
                }
            }
        }
    }

    private static void meeting(Sentence s, int i, int j) {
        // No two pairs of them meet at the same x, or where one of them is at y 50 or -50.
        int[][] lines = {{-5, 4, -2}, {4, -2, 3}, {-5, -3, 2}, {3, 5, -3}, {4, 5, 5}, {4, -4, -3}};
        QuantifierOut out = new QuantifierOut();
        for (int[] line : lines) {
            out.atom(line[0], line[1], line[2], ZERO);
        }
        int others = -1;
        for (int k = 0; k < lines.length; k++) {
            if (k != i && k != j) {
                others = others < 0 ? k : out.both(others, k);
            }
        }
        int meet = out.some(Y, out.both(i, j));
        int last = out.some(X, out.either(others, meet));
        int first = out.some(X, out.either(meet, others));
        int notLast = out.every(X, out.not(out.either(others, meet)));
        int notFirst = out.every(X, out.both(out.not(meet), out.not(others)));
        String where = "where lines " + i + " and " + j + " meet";
        s.due("some x, " + where, true, () -> out.holds(last, 0, 50));
        s.due("some x, ahead of others, " + where, true, () -> out.holds(first, 0, 50));
        s.due("every x but " + where, false, () -> out.holds(notLast, 0, -50));
        s.due("every x, ahead of others, but " + where, false, () -> out.holds(notFirst, 0, -50));
        s.due("SIZE, " + where, 6, () -> out.known(last, 2));
        s.due("DEPTH, " + where, 2, () -> out.known(last, 3));
    }

    private static void theSet() {
        Sentence s = terms("The SET of a NODE with just one FREE letter and a DEPTH of at most 1 is that of all "
            + "fractions that make it true in place of this letter.");
        QuantifierOut out = someNodes();
        s.set("of x", "(- -1/2)", out, ONLY_X);
        s.set("of y, none", "", out, ONLY_Y);
        int inY = out.some(X, out.atom(1, 2, -3, ZERO));
        s.set("of y, all", "(- -)", out, inY);
        int strip = out.both(out.atom(0, -2, 1, NOT_ABOVE), out.atom(0, 3, -5, BELOW));
        s.set("of y, some", "[1/2 5/3)", out, out.every(X, strip));
        s.refused("no FREE letter", STATE, q -> q.pieces(CLOSED));
        s.refused("two, DEPTH 0", STATE, q -> q.pieces(ATOM));
        s.refused("two, DEPTH 1", STATE, q -> q.pieces(X_Y_DEPTH_1));
        s.refused("two, DEPTH 2", STATE, q -> q.pieces(X_Y_DEPTH_2));
        s.refused("x alone, DEPTH 2", STATE, q -> q.pieces(ONLY_X_DEPTH_2));
        s.refused("y alone, DEPTH 2", STATE, q -> q.pieces(ONLY_Y_DEPTH_2));
    }

    /** Where a x + c meets op, for x alone. */
    private static int part(QuantifierOut out, int a, int c, int op) {
        return out.some(Y, out.atom(a, 0, c, op));
    }

    private static void setOfPieces() {
        Sentence s = terms("It is a row of PIECES, from left to right: all fractions between two ENDS, each of which "
            + "belongs to it or doesn't, or without an END on one side or both; or one fraction, both its ENDS");
        QuantifierOut out = new QuantifierOut();
        int above1 = part(out, -1, 1, BELOW);
        int from1 = part(out, -1, 1, NOT_ABOVE);
        int below2 = part(out, 1, -2, BELOW);
        int upTo2 = part(out, 1, -2, NOT_ABOVE);
        int at3 = part(out, 1, -3, ZERO);
        s.set("neither END belongs to it", "(1/1 2/1)", out, out.both(above1, below2));
        s.set("the left one does", "[1/1 2/1)", out, out.both(below2, from1));
        s.set("the right one does", "(1/1 2/1]", out, out.both(above1, upTo2));
        s.set("both do", "[1/1 2/1]", out, out.both(upTo2, from1));
        s.set("no END on the left, one that doesn't belong to it", "(- 2/1)", out, below2);
        s.set("no END on the left, one that does", "(- 2/1]", out, upTo2);
        s.set("no END on the right, one that doesn't belong to it", "(1/1 -)", out, above1);
        s.set("no END on the right, one that does", "[1/1 -)", out, from1);
        s.set("no END on either side", "(- -)", out, out.either(below2, from1));
        s.set("one fraction", "[3/1 3/1]", out, at3);
        s.set("one fraction, between two ENDS that belong to it", "[1/1 1/1]", out,
            out.both(from1, part(out, 1, -1, NOT_ABOVE)));
        s.set("no fraction, as one END doesn't belong to it", "", out, out.both(above1, part(out, 1, -1, NOT_ABOVE)));
        int below1 = out.not(from1);
        int right = out.either(at3, out.both(above1, below2));
        s.set("from left to right, made from right to left", "(- 1/1)(1/1 2/1)[3/1 3/1]", out,
            out.either(right, below1));
    }

    private static void asFewPiecesAsCanBe() {
        Sentence s = terms("as few PIECES as can be (so what belongs to none lies between two).");
        QuantifierOut out = new QuantifierOut();
        int below1 = part(out, 1, -1, BELOW);
        int upTo1 = part(out, 1, -1, NOT_ABOVE);
        int at1 = part(out, 1, -1, ZERO);
        int above1 = out.not(upTo1);
        int from1 = out.not(below1);
        int below2 = part(out, 1, -2, BELOW);
        s.set("one fraction lies between two", "(- 1/1)(1/1 -)", out, out.either(below1, above1));
        s.set("none does, it belongs to the left", "(- -)", out, out.either(upTo1, above1));
        s.set("none does, it belongs to the right", "(- -)", out, out.either(below1, from1));
        s.set("none does, it belongs to both", "(- -)", out, out.either(upTo1, from1));
        s.set("none does, one fraction fills the gap", "(- -)", out, out.either(at1, out.either(below1, above1)));
        s.set("one fraction beside another PIECE", "(- 1/1]", out, out.either(at1, below1));
        s.set("one fraction inside another PIECE", "(- 2/1)", out, out.either(at1, below2));
        s.set("one in the other", "(- 2/1)", out, out.either(below1, below2));
        s.set("a line that changes nothing", "(- 1/1)", out, out.both(below1, below2));
    }

    private static void noSuchNode() {
        Sentence s = terms("IndexOutOfBoundsException: no such NODE");
        for (int p : new int[] {Integer.MIN_VALUE, -1, SOME_NODES, 59, 60, Integer.MAX_VALUE}) {
            String of = " of " + p;
            s.refused("both" + of, INDEX, q -> q.both(p, ATOM));
            s.refused("both, second" + of, INDEX, q -> q.both(ATOM, p));
            s.refused("either" + of, INDEX, q -> q.either(p, ATOM));
            s.refused("either, second" + of, INDEX, q -> q.either(ATOM, p));
            s.refused("not" + of, INDEX, q -> q.not(p));
            s.refused("some" + of, INDEX, q -> q.some(X, p));
            s.refused("every" + of, INDEX, q -> q.every(Y, p));
            s.refused("known" + of, INDEX, q -> q.known(p, 0));
            s.refused("holds" + of, INDEX, q -> q.holds(p, 0, 0));
            s.refused("decide" + of, INDEX, q -> q.decide(p));
            s.refused("pieces" + of, INDEX, q -> q.pieces(p));
            s.refused("end" + of, INDEX, q -> q.end(p, 0, 0, 0));
            s.refused("alike" + of, INDEX, q -> q.alike(p, ATOM));
            s.refused("alike, second" + of, INDEX, q -> q.alike(ATOM, p));
            s.refused("alike, both" + of, INDEX, q -> q.alike(p, p));
        }
        for (int p : new int[] {Integer.MIN_VALUE, -1, 60, Integer.MAX_VALUE}) {
            String of = " of " + p;
            s.refusedWhenFull("known" + of, INDEX, q -> q.known(p, 0));
            s.refusedWhenFull("holds" + of, INDEX, q -> q.holds(p, 0, 0));
            s.refusedWhenFull("decide" + of, INDEX, q -> q.decide(p));
            s.refusedWhenFull("pieces" + of, INDEX, q -> q.pieces(p));
            s.refusedWhenFull("end" + of, INDEX, q -> q.end(p, 0, 0, 0));
            s.refusedWhenFull("alike" + of, INDEX, q -> q.alike(59, p));
        }
    }

    private static void noSuchPiece() {
        Sentence s = terms("PIECE (that ahead of IllegalArgumentException, behind IllegalStateException).");
        for (int k : new int[] {Integer.MIN_VALUE, -1, 2, 3, Integer.MAX_VALUE}) {
            s.refused("PIECE " + k, INDEX, q -> q.end(TWO_PIECES, k, 0, 0));
            s.refused("PIECE " + k + ", another side", INDEX, q -> q.end(TWO_PIECES, k, 2, 0));
            s.refused("PIECE " + k + ", another part", INDEX, q -> q.end(TWO_PIECES, k, 0, 3));
            s.refused("PIECE " + k + ", no SET, x, y FREE", STATE, q -> q.end(ATOM, k, 0, 0));
            s.refused("PIECE " + k + ", no SET, none FREE", STATE, q -> q.end(CLOSED, k, 0, 0));
            s.refused("PIECE " + k + ", no SET, DEPTH 2", STATE, q -> q.end(ONLY_X_DEPTH_2, k, 0, 0));
            s.refused("PIECE " + k + ", no SET, another side, part", STATE, q -> q.end(ATOM, k, -1, -1));
        }
        s.refused("PIECE 0 of none", INDEX, q -> q.end(NO_PIECE, 0, 0, 0));
        s.refused("PIECE 0 of none, another side", INDEX, q -> q.end(NO_PIECE, 0, -1, 0));
        s.refused("PIECE 0 of none, another part", INDEX, q -> q.end(NO_PIECE, 0, 0, -1));
        s.refused("PIECE -1 of none", INDEX, q -> q.end(NO_PIECE, -1, 0, 0));
        s.refused("PIECE 1 of one", INDEX, q -> q.end(ONLY_X, 1, 0, 0));
        s.due("PIECE 0 of one", 0, () -> someNodes().end(ONLY_X, 0, 0, 0));
        s.due("PIECE 0 of two", 0, () -> someNodes().end(TWO_PIECES, 0, 0, 0));
        s.due("PIECE 1 of two", 0, () -> someNodes().end(TWO_PIECES, 1, 1, 0));
    }

    private static void sixtyNodesAreThere() {
        Sentence s = terms("IllegalStateException: 60 NODES are there");
        s.refusedWhenFull("atom", STATE, q -> q.atom(1, 1, 1, ZERO));
        s.refusedWhenFull("both", STATE, q -> q.both(ATOM, 59));
        s.refusedWhenFull("either", STATE, q -> q.either(59, ATOM));
        s.refusedWhenFull("not", STATE, q -> q.not(ATOM));
        s.refusedWhenFull("not of not", STATE, q -> q.not(NOT_ONLY_X));
        s.refusedWhenFull("some", STATE, q -> q.some(X, ATOM));
        s.refusedWhenFull("every", STATE, q -> q.every(Y, ATOM));
        QuantifierOut out = full();
        s.due("known is still answered", 6, () -> out.known(SIZE_6, 2));
        s.due("holds is, of the last NODE", true, () -> out.holds(59, 0, 0));
        s.due("decide is", true, () -> out.decide(CLOSED));
        s.due("pieces is", 2, () -> out.pieces(TWO_PIECES));
        s.due("end is", 5, () -> out.end(TWO_PIECES, 0, 1, 2));
        s.due("alike is, of the last NODE", true, () -> out.alike(59, NOT_ONLY_X));
        s.due("count is", 60, out::count);
    }

    private static void asSaid() {
        Sentence s = terms("or as said. IllegalArgumentException: as said.");
        s.refused("decide, FREE", STATE, q -> q.decide(ONLY_X));
        s.refused("pieces, no SET", STATE, q -> q.pieces(CLOSED));
        s.refused("end, no SET", STATE, q -> q.end(CLOSED, 0, 0, 0));
        s.refused("atom", ARGUMENT, q -> q.atom(0, 6, 0, ZERO));
        s.refused("both", ARGUMENT, q -> q.both(SIZE_6, ATOM));
        s.refused("either", ARGUMENT, q -> q.either(SIZE_6, ATOM));
        s.refused("some", ARGUMENT, q -> q.some(2, ATOM));
        s.refused("every", ARGUMENT, q -> q.every(2, ATOM));
        s.refused("known", ARGUMENT, q -> q.known(ATOM, 4));
        s.refused("holds", ARGUMENT, q -> q.holds(ATOM, 51, 0));
        s.refused("end", ARGUMENT, q -> q.end(ONLY_X, 0, 2, 0));
    }

    private static void firstBehindThrows() {
        Sentence s = terms("Of several the one that stands first behind \"throws\" is thrown");
        s.refusedWhenFull("atom, a too", STATE, q -> q.atom(6, 0, 0, ZERO));
        s.refusedWhenFull("atom, b too", STATE, q -> q.atom(0, -6, 0, ZERO));
        s.refusedWhenFull("atom, c too", STATE, q -> q.atom(0, 0, 6, ZERO));
        s.refusedWhenFull("atom, op too", STATE, q -> q.atom(0, 0, 0, 3));
        s.refusedWhenFull("both, SIZE too", STATE, q -> q.both(SIZE_6, ATOM));
        s.refusedWhenFull("both, no first NODE", INDEX, q -> q.both(60, ATOM));
        s.refusedWhenFull("both, no second NODE", INDEX, q -> q.both(ATOM, -1));
        s.refusedWhenFull("either, SIZE too", STATE, q -> q.either(ATOM, SIZE_6));
        s.refusedWhenFull("either, no first NODE", INDEX, q -> q.either(-1, ATOM));
        s.refusedWhenFull("either, no second NODE", INDEX, q -> q.either(SIZE_6, 60));
        s.refusedWhenFull("not, no NODE", INDEX, q -> q.not(60));
        s.refusedWhenFull("some, letter too", STATE, q -> q.some(2, ATOM));
        s.refusedWhenFull("some, DEPTH too", STATE, q -> q.some(X, CLOSED));
        s.refusedWhenFull("some, no NODE", INDEX, q -> q.some(X, 60));
        s.refusedWhenFull("some, no NODE, letter", INDEX, q -> q.some(-1, -1));
        s.refusedWhenFull("every, letter too", STATE, q -> q.every(-1, ATOM));
        s.refusedWhenFull("every, DEPTH too", STATE, q -> q.every(Y, CLOSED));
        s.refusedWhenFull("every, no NODE", INDEX, q -> q.every(Y, -1));
        s.refusedWhenFull("every, no NODE, letter", INDEX, q -> q.every(2, 60));
        s.refused("both, no NODE, SIZE", INDEX, q -> q.both(SIZE_6, SOME_NODES));
        s.refused("either, no NODE, SIZE", INDEX, q -> q.either(-1, SIZE_6));
        s.refused("some, no NODE, letter", INDEX, q -> q.some(2, SOME_NODES));
        s.refused("every, no NODE, letter", INDEX, q -> q.every(-1, SOME_NODES));
        s.refused("known, no NODE, what", INDEX, q -> q.known(SOME_NODES, 4));
        s.refused("holds, no NODE, x", INDEX, q -> q.holds(SOME_NODES, 51, 0));
        s.refused("holds, no NODE, y", INDEX, q -> q.holds(-1, 0, -51));
        s.refused("end, no NODE, side, part", INDEX, q -> q.end(SOME_NODES, 0, 2, 3));
        s.refused("end, no SET, side", STATE, q -> q.end(ATOM, 0, 2, 0));
        s.refused("end, no SET, part", STATE, q -> q.end(ONLY_Y_DEPTH_2, 0, 0, 3));
        s.refused("end, no PIECE, side, part", INDEX, q -> q.end(TWO_PIECES, 2, -1, -1));
    }

    /** As many refused calls as an object is used for, then a taken one; what one of them leaves is looked at above. */
    private static void nothingChanges() {
        Sentence s = terms("nothing changes.");
        QuantifierOut out = new QuantifierOut();
        for (int made = 0; made < MOST_CALLS - 2; made++) {
            int turn = made;
            Checks.outcome(() -> turn % 2 == 0 ? out.atom(0, 0, 0, 3) : out.not(0));
        }
        s.due("the first NODE behind 510 refused calls", 0, () -> out.atom(0, 0, 0, ZERO));
        s.due("count", 1, out::count);
        QuantifierOut last = roomFor(1);
        for (int made = MOST_NODES; made < 400; made++) {
            int turn = made;
            Checks.outcome(() -> turn % 2 == 0 ? last.both(SIZE_6, ATOM) : last.some(X, CLOSED));
        }
        s.due("the last NODE behind refused calls", 59, () -> last.both(SIZE_5, ATOM));
        s.due("one more", STATE, () -> last.both(SIZE_5, ATOM));
        s.due("count of all", 60, last::count);
    }
}
