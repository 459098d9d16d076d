/** The boundary cases that the document's promises name: each method is that of the sentence in it. */
public final class PromisesBoundariesTest extends Samples {
    private static final int LEAST = Integer.MIN_VALUE;
    private static final int MOST = Integer.MAX_VALUE;

    public static void main(String[] args) {
        promise1NoNodes();
        promise2Op();
        promise2FactorsAreMinus5To5();
        promise2AnotherOp();
        promise3SizeAbove6();
        promise4SizeAbove6();
        promise5Not();
        promise6Letter();
        promise6AnotherLetter();
        promise6DepthAbove2();
        promise7Letter();
        promise7AnotherLetter();
        promise7DepthAbove2();
        promise8What();
        promise8AnotherWhat();
        promise9WhereTheseAreFree();
        promise9ValuesAreMinus50To50();
        promise10WhetherItIsTrue();
        promise10Free();
        promise11HowMany();
        promise11NotJustOneLetter();
        promise11DepthAbove1();
        promise12PieceAndSide();
        promise12Part0();
        promise12Parts1And2();
        promise12LowestTerms();
        promise12NoEnd();
        promise12NoSet();
        promise12AnotherSide();
        promise12AnotherPart();
        promise13Minus2To2();
        promise13NoOthers();
        promise13LettersThatArentFree();
        promise14HowMany();
        Checks.finish();
    }

    private static Sentence promise(int number, String words) {
        return new Sentence("Promise " + number, words);
    }

    private static void promise1NoNodes() {
        Sentence s = promise(1, "QuantifierOut(): No NODES.");
        s.due("count", 0, () -> new QuantifierOut().count());
        s.due("the first NODE", 0, () -> new QuantifierOut().atom(0, 0, 0, ZERO));
        someNodes();
        s.due("count, behind another object's NODES", 0, () -> new QuantifierOut().count());
        for (int p : new int[] {LEAST, -1, 0, 1, 59, 60, MOST}) {
            String of = " of " + p;
            s.refused("both" + of, INDEX, QuantifierOut::new, q -> q.both(p, p));
            s.refused("either" + of, INDEX, QuantifierOut::new, q -> q.either(p, p));
            s.refused("not" + of, INDEX, QuantifierOut::new, q -> q.not(p));
            s.refused("some" + of, INDEX, QuantifierOut::new, q -> q.some(X, p));
            s.refused("every" + of, INDEX, QuantifierOut::new, q -> q.every(X, p));
            s.refused("known" + of, INDEX, QuantifierOut::new, q -> q.known(p, 0));
            s.refused("holds" + of, INDEX, QuantifierOut::new, q -> q.holds(p, 0, 0));
            s.refused("decide" + of, INDEX, QuantifierOut::new, q -> q.decide(p));
            s.refused("pieces" + of, INDEX, QuantifierOut::new, q -> q.pieces(p));
            s.refused("end" + of, INDEX, QuantifierOut::new, q -> q.end(p, 0, 0, 0));
            s.refused("alike" + of, INDEX, QuantifierOut::new, q -> q.alike(p, p));
        }
    }

    private static void promise2Op() {
        Sentence s = promise(2, "op 0: is 0, 1: is below 0, 2: isn't above 0.");
        QuantifierOut out = new QuantifierOut();
        boolean[][] want = {{false, true, false}, {true, false, false}, {true, true, false}};
        for (int op = 0; op < 3; op++) {
            int p = out.atom(1, 0, 0, op);
            int q = out.atom(0, -1, 0, op);
            for (int value = -1; value <= 1; value++) {
                int sum = value;
                s.due("op " + op + ", it is " + sum, want[op][sum + 1], () -> out.holds(p, sum, 7));
                s.due("op " + op + ", it is " + sum + " by y", want[op][sum + 1], () -> out.holds(q, 7, -sum));
            }
        }
    }

    private static void promise2FactorsAreMinus5To5() {
        Sentence s = promise(2, "IllegalArgumentException: a, b or c isn't -5 .. 5");
        for (int last : new int[] {-5, 5}) {
            QuantifierOut out = new QuantifierOut();
            s.due("a " + last, 0, () -> out.atom(last, 1, -last, ZERO));
            s.due("b " + last, 1, () -> out.atom(1, last, -last, ZERO));
            s.due("c " + last, 2, () -> out.atom(1, 0, last, ZERO));
            s.due("all " + last, 3, () -> out.atom(last, last, last, ZERO));
            s.due("a " + last + " is kept", true, () -> out.holds(0, 1, 0));
            s.due("b " + last + " is kept", true, () -> out.holds(1, 0, 1));
            s.due("c " + last + " is kept", true, () -> out.holds(2, -last, 0));
            s.due("all " + last + " are kept", true, () -> out.holds(3, 2, -3));
        }
        for (int first : new int[] {LEAST, -6, 6, MOST}) {
            s.refused("a " + first, ARGUMENT, q -> q.atom(first, 0, 0, ZERO));
            s.refused("b " + first, ARGUMENT, q -> q.atom(0, first, 0, BELOW));
            s.refused("c " + first, ARGUMENT, q -> q.atom(0, 0, first, NOT_ABOVE));
            s.refused("all " + first, ARGUMENT, q -> q.atom(first, first, first, ZERO));
        }
    }

    private static void promise2AnotherOp() {
        Sentence s = promise(2, "or another op.");
        s.due("op 0", SOME_NODES, () -> someNodes().atom(0, 0, 0, 0));
        s.due("op 1", SOME_NODES, () -> someNodes().atom(0, 0, 0, 1));
        s.due("op 2", SOME_NODES, () -> someNodes().atom(0, 0, 0, 2));
        for (int op : new int[] {LEAST, -1, 3, MOST}) {
            s.refused("op " + op, ARGUMENT, q -> q.atom(0, 0, 0, op));
        }
    }

    private static void promise3SizeAbove6() {
        Sentence s = promise(3, "IllegalArgumentException: its SIZE would be above 6.");
        for (int left = 1; left <= 6; left++) {
            int p = OF_SIZE[left];
            for (int right = 1; right <= 6; right++) {
                int second = OF_SIZE[right];
                String sizes = "SIZE " + left + " and " + right;
                if (left + right <= 6) {
                    s.due(sizes, SOME_NODES, () -> someNodes().both(p, second));
                } else {
                    s.refused(sizes, ARGUMENT, q -> q.both(p, second));
                }
            }
        }
        s.refused("SIZE 6 and 1, DEPTH 2", ARGUMENT, q -> q.both(SIZE_6, CLOSED));
    }

    private static void promise4SizeAbove6() {
        Sentence s = promise(4, "IllegalArgumentException: likewise.");
        for (int left = 1; left <= 6; left++) {
            int p = OF_SIZE[left];
            for (int right = 1; right <= 6; right++) {
                int second = OF_SIZE[right];
                String sizes = "SIZE " + left + " and " + right;
                if (left + right <= 6) {
                    s.due(sizes, SOME_NODES, () -> someNodes().either(p, second));
                } else {
                    s.refused(sizes, ARGUMENT, q -> q.either(p, second));
                }
            }
        }
        s.refused("SIZE 1 and 6, DEPTH 2", ARGUMENT, q -> q.either(CLOSED, SIZE_6));
    }

    private static void promise5Not() {
        Sentence s = promise(5, "not(int p) throws IndexOutOfBoundsException, IllegalStateException: NOT.");
        for (int p = 0; p < SOME_NODES; p++) {
            int of = p;
            s.due("not of " + p, SOME_NODES, () -> someNodes().not(of));
        }
        for (int p : new int[] {LEAST, -1, SOME_NODES, MOST}) {
            s.refused("not of " + p, INDEX, q -> q.not(p));
        }
        QuantifierOut out = new QuantifierOut();
        out.atom(1, 0, 0, BELOW);
        for (int p = 0; p < 59; p++) {
            int of = p;
            s.due("a chain of them, " + p, p + 1, () -> out.not(of));
        }
        s.due("the last of the chain, at 0", true, () -> out.holds(59, 0, 0));
        s.due("the last of the chain, below 0", false, () -> out.holds(59, -1, 0));
        s.due("the last but one, at 0", false, () -> out.holds(58, 0, 0));
        s.due("the last but one, below 0", true, () -> out.holds(58, -1, 0));
        s.due("one more", STATE, () -> out.not(59));
    }

    private static void promise6Letter() {
        Sentence s = promise(6, "SOME x (letter 0) or y (1).");
        QuantifierOut out = new QuantifierOut();
        int corner = out.both(out.atom(1, 0, -1, ZERO), out.atom(0, 1, -2, ZERO));
        int ofX = out.some(0, corner);
        int ofY = out.some(1, corner);
        s.due("letter 0, y is 2", true, () -> out.holds(ofX, 9, 2));
        s.due("letter 0, y is 1", false, () -> out.holds(ofX, 1, 1));
        s.due("letter 1, x is 1", true, () -> out.holds(ofY, 1, 9));
        s.due("letter 1, x is 2", false, () -> out.holds(ofY, 2, 2));
    }

    private static void promise6AnotherLetter() {
        Sentence s = promise(6, "IllegalArgumentException: another letter");
        s.due("letter 0", SOME_NODES, () -> someNodes().some(0, ATOM));
        s.due("letter 1", SOME_NODES, () -> someNodes().some(1, ATOM));
        s.due("letter 0, not FREE", SOME_NODES, () -> someNodes().some(0, ONLY_Y));
        s.due("letter 1, not FREE", SOME_NODES, () -> someNodes().some(1, ONLY_X));
        for (int letter : new int[] {LEAST, -1, 2, MOST}) {
            s.refused("letter " + letter, ARGUMENT, q -> q.some(letter, ATOM));
            s.refused("letter " + letter + ", DEPTH 2", ARGUMENT, q -> q.some(letter, CLOSED));
        }
    }

    private static void promise6DepthAbove2() {
        Sentence s = promise(6, "or its DEPTH would be above 2.");
        for (int l = X; l <= Y; l++) {
            int letter = l;
            s.due("of DEPTH 0, letter " + l, SOME_NODES, () -> someNodes().some(letter, ATOM));
            s.due("of DEPTH 1, letter " + l, SOME_NODES, () -> someNodes().some(letter, ONLY_X));
            s.due("of DEPTH 1, SIZE 6, letter " + l, SOME_NODES, () -> someNodes().some(letter, SIZE_6));
            for (int p : new int[] {CLOSED, ONLY_X_DEPTH_2, ONLY_Y_DEPTH_2, X_Y_DEPTH_2}) {
                s.refused("of DEPTH 2, " + p + ", letter " + l, ARGUMENT, q -> q.some(letter, p));
            }
        }
    }

    private static void promise7Letter() {
        Sentence s = promise(7, "EVERY x (0) or y (1).");
        QuantifierOut out = new QuantifierOut();
        int cross = out.either(out.atom(1, 0, -1, ZERO), out.atom(0, 1, -2, ZERO));
        int ofX = out.every(0, cross);
        int ofY = out.every(1, cross);
        s.due("letter 0, y is 2", true, () -> out.holds(ofX, 9, 2));
        s.due("letter 0, y is 1", false, () -> out.holds(ofX, 1, 1));
        s.due("letter 1, x is 1", true, () -> out.holds(ofY, 1, 9));
        s.due("letter 1, x is 2", false, () -> out.holds(ofY, 2, 2));
    }

    private static void promise7AnotherLetter() {
        Sentence s = promise(7, "IllegalArgumentException: likewise.");
        s.due("letter 0", SOME_NODES, () -> someNodes().every(0, ATOM));
        s.due("letter 1", SOME_NODES, () -> someNodes().every(1, ATOM));
        s.due("letter 0, not FREE", SOME_NODES, () -> someNodes().every(0, ONLY_Y));
        s.due("letter 1, not FREE", SOME_NODES, () -> someNodes().every(1, ONLY_X));
        for (int letter : new int[] {LEAST, -1, 2, MOST}) {
            s.refused("letter " + letter, ARGUMENT, q -> q.every(letter, ATOM));
            s.refused("letter " + letter + ", DEPTH 2", ARGUMENT, q -> q.every(letter, CLOSED));
        }
    }

    private static void promise7DepthAbove2() {
        Sentence s = promise(7, "IllegalArgumentException: likewise.");
        for (int l = X; l <= Y; l++) {
            int letter = l;
            s.due("of DEPTH 0, letter " + l, SOME_NODES, () -> someNodes().every(letter, ATOM));
            s.due("of DEPTH 1, letter " + l, SOME_NODES, () -> someNodes().every(letter, ONLY_X));
            s.due("of DEPTH 1, SIZE 6, letter " + l, SOME_NODES, () -> someNodes().every(letter, SIZE_6));
            for (int p : new int[] {CLOSED, ONLY_X_DEPTH_2, ONLY_Y_DEPTH_2, X_Y_DEPTH_2}) {
                s.refused("of DEPTH 2, " + p + ", letter " + l, ARGUMENT, q -> q.every(letter, p));
            }
        }
    }

    private static void promise8What() {
        Sentence s = promise(8, "What 0: whether x is FREE (1, or 0), 1: whether y is, 2: SIZE, 3: DEPTH.");
        String[] want = {"1110", "1011", "0111", "0012", "1012", "0112", "1021", "1031", "1041", "1051", "1061", "1011",
            "1021", "1110", "1011", "1011", "1121", "1122"};
        QuantifierOut out = someNodes();
        s.due("NODES", want.length, out::count);
        for (int node = 0; node < want.length; node++) {
            for (int w = 0; w < 4; w++) {
                int p = node;
                int what = w;
                s.due("NODE " + p + ", what " + w, want[p].charAt(w), () -> out.known(p, what));
            }
        }
    }

    private static void promise8AnotherWhat() {
        Sentence s = promise(8, "IllegalArgumentException: another what.");
        s.due("what 0", 1, () -> someNodes().known(SIZE_6, 0));
        s.due("what 3", 1, () -> someNodes().known(SIZE_6, 3));
        for (int what : new int[] {LEAST, -1, 4, MOST}) {
            s.refused("what " + what, ARGUMENT, q -> q.known(ATOM, what));
            s.refusedWhenFull("what " + what, ARGUMENT, q -> q.known(59, what));
        }
    }

    private static void promise9WhereTheseAreFree() {
        Sentence s = promise(9, "Whether it is true with whole numbers in place of x and y, where these are FREE.");
        QuantifierOut out = new QuantifierOut();
        int corner = out.both(out.atom(1, 0, -1, ZERO), out.atom(0, 1, -2, ZERO));
        int ofX = out.some(X, corner);
        int none = out.some(Y, ofX);
        s.due("both are, 1, 2", true, () -> out.holds(corner, 1, 2));
        s.due("both are, 2, 1", false, () -> out.holds(corner, 2, 1));
        for (int value : new int[] {-50, -1, 0, 1, 2, 50}) {
            s.due("x isn't, x is " + value, true, () -> out.holds(ofX, value, 2));
            s.due("x isn't, y isn't 2, x is " + value, false, () -> out.holds(ofX, value, 1));
            s.due("none is, x is " + value, true, () -> out.holds(none, value, 0));
            s.due("none is, y is " + value, true, () -> out.holds(none, 0, value));
        }
    }

    private static void promise9ValuesAreMinus50To50() {
        Sentence s = promise(9, "IllegalArgumentException: one isn't -50 .. 50.");
        QuantifierOut out = new QuantifierOut();
        int same = out.atom(1, -1, 0, ZERO);
        for (int last : new int[] {-50, 50}) {
            int inside = last - Integer.signum(last);
            s.due("both " + last, true, () -> out.holds(same, last, last));
            s.due("x " + last, false, () -> out.holds(same, last, inside));
            s.due("y " + last, false, () -> out.holds(same, inside, last));
            s.due("x " + last + ", y " + -last, false, () -> out.holds(same, last, -last));
        }
        for (int first : new int[] {LEAST, -51, 51, MOST}) {
            for (int p : new int[] {ATOM, ONLY_X, ONLY_Y, CLOSED}) {
                s.refused("x " + first + " of " + p, ARGUMENT, q -> q.holds(p, first, 0));
                s.refused("y " + first + " of " + p, ARGUMENT, q -> q.holds(p, 0, first));
                s.refused("both " + first + " of " + p, ARGUMENT, q -> q.holds(p, first, first));
            }
        }
    }

    private static void promise10WhetherItIsTrue() {
        Sentence s = promise(10, "Whether it is true.");
        QuantifierOut out = new QuantifierOut();
        int less = out.atom(1, -1, 0, BELOW);
        int greaterThanEach = out.every(X, out.some(Y, less));
        int greatest = out.some(Y, out.every(X, less));
        int zero = out.atom(0, 0, 0, NOT_ABOVE);
        int without = out.every(X, out.every(Y, zero));
        int never = out.some(X, out.some(Y, out.atom(0, 0, 1, NOT_ABOVE)));
        s.due("each has a greater one", true, () -> out.decide(greaterThanEach));
        s.due("one is greater than each", false, () -> out.decide(greatest));
        s.due("not of true", false, () -> out.decide(out.not(greaterThanEach)));
        s.due("not of false", true, () -> out.decide(out.not(greatest)));
        s.due("both", false, () -> out.decide(out.both(greaterThanEach, greatest)));
        s.due("either", true, () -> out.decide(out.either(greaterThanEach, greatest)));
        s.due("0 isn't above 0", true, () -> out.decide(without));
        s.due("1 isn't above 0", false, () -> out.decide(never));
        s.due("behind a question at other values", true, () -> {
            out.holds(less, 50, -50);
            return out.decide(greaterThanEach);
        });
    }

    private static void promise10Free() {
        Sentence s = promise(10, "IllegalStateException: x or y is FREE in it.");
        s.refused("both, DEPTH 0", STATE, q -> q.decide(ATOM));
        s.refused("both, DEPTH 1", STATE, q -> q.decide(X_Y_DEPTH_1));
        s.refused("both, DEPTH 2", STATE, q -> q.decide(X_Y_DEPTH_2));
        s.refused("x, DEPTH 1", STATE, q -> q.decide(ONLY_X));
        s.refused("x, DEPTH 2", STATE, q -> q.decide(ONLY_X_DEPTH_2));
        s.refused("y, DEPTH 1", STATE, q -> q.decide(ONLY_Y));
        s.refused("y, DEPTH 2", STATE, q -> q.decide(ONLY_Y_DEPTH_2));
        s.refusedWhenFull("x", STATE, q -> q.decide(ONLY_X));
    }

    /** Either of three lines, and either of three others: each meets each at another x. */
    private static int nineMeetings(QuantifierOut out) {
        int left = out.either(out.atom(-5, 5, -4, ZERO), out.either(out.atom(-2, 3, -3, ZERO),
            out.atom(4, -5, 5, ZERO)));
        int right = out.either(out.atom(4, 3, 0, ZERO), out.either(out.atom(4, -2, -1, ZERO),
            out.atom(-5, -4, 0, ZERO)));
        return out.both(left, right);
    }

    private static void promise11HowMany() {
        Sentence s = promise(11, "How many PIECES its SET has.");
        s.due("none", 0, () -> someNodes().pieces(NO_PIECE));
        s.due("one", 1, () -> someNodes().pieces(ONLY_X));
        s.due("one fraction", 1, () -> someNodes().pieces(ONE_FRACTION));
        s.due("two", 2, () -> someNodes().pieces(TWO_PIECES));
        QuantifierOut out = new QuantifierOut();
        int nine = out.some(Y, nineMeetings(out));
        int ten = out.not(nine);
        s.due("nine", 9, () -> out.pieces(nine));
        s.due("ten", 10, () -> out.pieces(ten));
        s.due("nine, again", 9, () -> out.pieces(nine));
        s.set("nine", "[-12/23 -12/23][-1/2 -1/2][-20/41 -20/41][-15/32 -15/32][-16/45 -16/45][-12/35 -12/35][9/8 9/8]"
            + "[5/4 5/4][13/10 13/10]", out, nine);
        s.set("ten", "(- -12/23)(-12/23 -1/2)(-1/2 -20/41)(-20/41 -15/32)(-15/32 -16/45)(-16/45 -12/35)(-12/35 9/8)"
            + "(9/8 5/4)(5/4 13/10)(13/10 -)", out, ten);
    }

    private static void promise11NotJustOneLetter() {
        Sentence s = promise(11, "IllegalStateException: it has none (not just one letter is FREE");
        s.refused("none, DEPTH 2", STATE, q -> q.pieces(CLOSED));
        s.refused("two, DEPTH 0", STATE, q -> q.pieces(ATOM));
        s.refused("two, DEPTH 1", STATE, q -> q.pieces(X_Y_DEPTH_1));
        s.refused("two, where b is 0", STATE, q -> q.pieces(EQUATION));
        s.refusedWhenFull("two", STATE, q -> q.pieces(59));
        s.due("just x", 1, () -> someNodes().pieces(ONLY_X));
        s.due("just y", 0, () -> someNodes().pieces(ONLY_Y));
    }

    private static void promise11DepthAbove1() {
        Sentence s = promise(11, "or its DEPTH is above 1).");
        s.refused("just x, DEPTH 2", STATE, q -> q.pieces(ONLY_X_DEPTH_2));
        s.refused("just y, DEPTH 2", STATE, q -> q.pieces(ONLY_Y_DEPTH_2));
        s.refused("both, DEPTH 2", STATE, q -> q.pieces(X_Y_DEPTH_2));
        QuantifierOut out = someNodes();
        int deep = out.either(ONLY_X, out.not(ONLY_X_DEPTH_2));
        s.due("just x, DEPTH 2 in a part of it", STATE, () -> out.pieces(deep));
        s.due("just x, DEPTH 1, SIZE 6", 1, () -> out.pieces(SIZE_6));
        s.due("just x, DEPTH 1, not", 1, () -> out.pieces(NOT_ONLY_X));
    }

    private static void promise12PieceAndSide() {
        Sentence s = promise(12, "Of PIECE k, side 0 (left) or 1");
        QuantifierOut out = new QuantifierOut();
        int ten = out.not(out.some(Y, nineMeetings(out)));
        long[] below = {1, 23, 2, 41, 32, 45, 35, 8, 4, 10, 1};
        for (int piece = 0; piece < 10; piece++) {
            int k = piece;
            s.due("left of PIECE " + k, below[k], () -> out.end(ten, k, 0, 2));
            s.due("right of PIECE " + k, below[k + 1], () -> out.end(ten, k, 1, 2));
        }
        s.due("PIECE 10", INDEX, () -> out.end(ten, 10, 0, 2));
        s.due("PIECE -1", INDEX, () -> out.end(ten, -1, 0, 2));
        s.refused("PIECE 2 of two", INDEX, q -> q.end(TWO_PIECES, 2, 1, 0));
        s.refused("PIECE -1 of two", INDEX, q -> q.end(TWO_PIECES, -1, 1, 0));
        s.refused("PIECE 0 of none", INDEX, q -> q.end(NO_PIECE, 0, 1, 0));
    }

    private static void promise12Part0() {
        Sentence s = promise(12, "part 0: whether there is no END (0), one that doesn't belong to it (1), one that "
            + "does (2)");
        QuantifierOut out = new QuantifierOut();
        int below = out.some(Y, out.atom(1, 0, -2, BELOW));
        int from = out.some(Y, out.atom(-1, 0, 1, NOT_ABOVE));
        int between = out.both(from, below);
        int around = out.not(between);
        int one = out.some(Y, out.atom(3, 0, 1, ZERO));
        s.due("no END on the left", 0, () -> out.end(below, 0, 0, 0));
        s.due("no END on the right", 0, () -> out.end(from, 0, 1, 0));
        s.due("one on the left that belongs to it", 2, () -> out.end(between, 0, 0, 0));
        s.due("one on the right that doesn't", 1, () -> out.end(between, 0, 1, 0));
        s.due("one on the right of the first that doesn't", 1, () -> out.end(around, 0, 1, 0));
        s.due("one on the left of the second that belongs to it", 2, () -> out.end(around, 1, 0, 0));
        s.due("one on the left that doesn't", 1, () -> out.end(out.not(out.not(out.not(one))), 1, 0, 0));
        s.due("one fraction, left", 2, () -> out.end(one, 0, 0, 0));
        s.due("one fraction, right", 2, () -> out.end(one, 0, 1, 0));
    }

    private static void promise12Parts1And2() {
        Sentence s = promise(12, "1, 2: the END, above, below");
        QuantifierOut out = new QuantifierOut();
        int one = out.every(Y, out.atom(5, 0, 4, ZERO));
        s.due("left, above", -4, () -> out.end(one, 0, 0, 1));
        s.due("left, below", 5, () -> out.end(one, 0, 0, 2));
        s.due("right, above", -4, () -> out.end(one, 0, 1, 1));
        s.due("right, below", 5, () -> out.end(one, 0, 1, 2));
        int wide = out.either(out.both(out.atom(1, 0, 5, ZERO), out.atom(0, 1, 0, ZERO)), out.atom(-1, 0, 5, BELOW));
        s.set("-5 and 5", "[-5/1 -5/1](5/1 -)", out, out.some(Y, wide));
        int far = out.both(out.atom(1, -4, 5, ZERO), out.atom(-1, 5, 5, ZERO));
        s.set("-45, farther than any a, b or c", "[-45/1 -45/1]", out, out.some(Y, far));
        s.set("its y", "[-10/1 -10/1]", out, out.some(X, far));
        int near = out.both(out.atom(5, -4, 0, ZERO), out.atom(4, 5, 1, ZERO));
        s.set("-4/41", "[-4/41 -4/41]", out, out.some(Y, near));
        int wayOut = out.both(out.atom(-1, 4, 5, ZERO), out.atom(1, -5, 5, ZERO));
        s.set("45", "[45/1 45/1]", out, out.some(Y, wayOut));
    }

    private static void promise12LowestTerms() {
        Sentence s = promise(12, "in lowest terms");
        int[][] lines = {{4, 2, -1, 2}, {-4, -2, -1, 2}, {4, -2, 1, 2}, {-4, 2, 1, 2}, {3, 0, 0, 1}, {-5, 0, 0, 1},
            {2, -4, 2, 1}, {-2, -4, -2, 1}, {5, 5, -1, 1}, {-5, 5, 1, 1}, {3, -5, 5, 3}, {-3, -5, -5, 3}, {1, 5, -5, 1},
            {5, 1, -1, 5}, {5, -4, 4, 5}};
        QuantifierOut out = new QuantifierOut();
        for (int[] line : lines) {
            int p = out.some(Y, out.atom(line[0], 0, line[1], ZERO));
            String fraction = line[2] + "/" + line[3];
            s.set(line[0] + " x + " + line[1], "[" + fraction + " " + fraction + "]", out, p);
        }
        QuantifierOut other = new QuantifierOut();
        int tenths = other.both(other.atom(5, 5, -3, ZERO), other.atom(5, -5, 2, ZERO));
        s.set("5/50", "[1/10 1/10]", other, other.some(Y, tenths));
        s.set("25/50", "[1/2 1/2]", other, other.some(X, tenths));
        int whole = other.both(other.atom(5, 5, -5, ZERO), other.atom(-5, 5, 5, ZERO));
        s.set("50/50", "[1/1 1/1]", other, other.some(Y, whole));
        s.set("0/50", "[0/1 0/1]", other, other.some(X, whole));
    }

    private static void promise12NoEnd() {
        Sentence s = promise(12, "(0 and 1 if there is none).");
        QuantifierOut out = someNodes();
        int all = out.not(NO_PIECE);
        for (int side = 0; side < 2; side++) {
            int asked = side;
            s.due("all fractions, part 0, side " + side, 0, () -> out.end(all, 0, asked, 0));
            s.due("all fractions, above, side " + side, 0, () -> out.end(all, 0, asked, 1));
            s.due("all fractions, below, side " + side, 1, () -> out.end(all, 0, asked, 2));
        }
        s.due("left of the first, above", 0, () -> out.end(TWO_PIECES, 0, 0, 1));
        s.due("left of the first, below", 1, () -> out.end(TWO_PIECES, 0, 0, 2));
        s.due("right of the last, above", 0, () -> out.end(TWO_PIECES, 1, 1, 1));
        s.due("right of the last, below", 1, () -> out.end(TWO_PIECES, 1, 1, 2));
        int zero = out.some(Y, out.atom(2, 0, 0, BELOW));
        s.due("an END that is 0, part 0", 1, () -> out.end(zero, 0, 1, 0));
        s.due("an END that is 0, above", 0, () -> out.end(zero, 0, 1, 1));
        s.due("an END that is 0, below", 1, () -> out.end(zero, 0, 1, 2));
    }

    private static void promise12NoSet() {
        Sentence s = promise(12, "throws IndexOutOfBoundsException, IllegalStateException");
        for (int p : new int[] {ATOM, CLOSED, ONLY_X_DEPTH_2, ONLY_Y_DEPTH_2, EQUATION, X_Y_DEPTH_1, X_Y_DEPTH_2}) {
            s.refused("NODE " + p, STATE, q -> q.end(p, 0, 0, 0));
            s.refused("NODE " + p + ", behind one with a SET", STATE, q -> {
                q.end(ONLY_X, 0, 0, 0);
                return q.end(p, 0, 0, 0);
            });
        }
    }

    private static void promise12AnotherSide() {
        Sentence s = promise(12, "IllegalArgumentException: another side");
        s.due("side 0", 0, () -> someNodes().end(ONLY_X, 0, 0, 0));
        s.due("side 1", 1, () -> someNodes().end(ONLY_X, 0, 1, 0));
        for (int side : new int[] {LEAST, -1, 2, MOST}) {
            for (int part = 0; part < 3; part++) {
                int asked = part;
                s.refused("side " + side + ", part " + part, ARGUMENT, q -> q.end(TWO_PIECES, 1, side, asked));
            }
            s.refused("side " + side + ", part 3", ARGUMENT, q -> q.end(TWO_PIECES, 0, side, 3));
        }
    }

    private static void promise12AnotherPart() {
        Sentence s = promise(12, "IllegalArgumentException: another side, part.");
        s.due("part 0", 1, () -> someNodes().end(ONLY_X, 0, 1, 0));
        s.due("part 2", 2, () -> someNodes().end(ONLY_X, 0, 1, 2));
        for (int part : new int[] {LEAST, -1, 3, MOST}) {
            s.refused("part " + part + ", no END", ARGUMENT, q -> q.end(TWO_PIECES, 0, 0, part));
            s.refused("part " + part + ", an END", ARGUMENT, q -> q.end(TWO_PIECES, 0, 1, part));
        }
    }

    private static void promise13Minus2To2() {
        Sentence s = promise(13, "Whether two NODES are true for the same whole numbers x, y from -2 to 2.");
        for (int x = -2; x <= 2; x++) {
            for (int y = -2; y <= 2; y++) {
                QuantifierOut out = new QuantifierOut();
                int never = out.atom(0, 0, 1, ZERO);
                int always = out.atom(0, 0, -1, BELOW);
                int atX = out.atom(1, 0, -x, ZERO);
                int atY = out.atom(0, 1, -y, ZERO);
                int there = out.both(atX, atY);
                int butThere = out.not(there);
                int cross = out.either(atX, atY);
                String at = " at " + x + ", " + y;
                s.due("true just" + at, false, () -> out.alike(there, never));
                s.due("the other way round" + at, false, () -> out.alike(never, there));
                s.due("false just" + at, false, () -> out.alike(always, butThere));
                s.due("the same just" + at, false, () -> out.alike(there, butThere));
                s.due("both and the first" + at, false, () -> out.alike(there, atX));
                s.due("both and the second" + at, false, () -> out.alike(there, atY));
                s.due("either and the first" + at, false, () -> out.alike(cross, atX));
                s.due("either and the second" + at, false, () -> out.alike(cross, atY));
                s.due("both and either" + at, false, () -> out.alike(there, cross));
                s.due("itself" + at, true, () -> out.alike(there, there));
                s.due("not of not" + at, true, () -> out.alike(out.not(butThere), there));
            }
        }
        s.due("the first NODE and the last, not of it", false, () -> full().alike(0, 59));
        s.due("the last NODE", true, () -> full().alike(59, NOT_ONLY_X));
    }

    private static void promise13NoOthers() {
        Sentence s = promise(13, "whole numbers x, y from -2 to 2");
        QuantifierOut out = new QuantifierOut();
        int never = out.atom(0, 0, 1, ZERO);
        for (int beyond : new int[] {-5, -4, -3, 3, 4, 5}) {
            int atX = out.atom(1, 0, -beyond, ZERO);
            int atY = out.atom(0, 1, -beyond, ZERO);
            s.due("x " + beyond, true, () -> out.alike(atX, never));
            s.due("y " + beyond, true, () -> out.alike(never, atY));
        }
        int half = out.atom(2, 0, -1, ZERO);
        int thirds = out.atom(0, 3, 5, ZERO);
        s.due("x 1/2, no whole number", true, () -> out.alike(half, never));
        s.due("y -5/3, no whole number", true, () -> out.alike(thirds, never));
        int upTo2 = out.atom(1, 0, -2, NOT_ABOVE);
        int below3 = out.atom(1, 0, -3, BELOW);
        int below2 = out.atom(1, 0, -2, BELOW);
        s.due("x up to 2 and below 3", true, () -> out.alike(upTo2, below3));
        s.due("x up to 2 and below 2", false, () -> out.alike(upTo2, below2));
    }

    private static void promise13LettersThatArentFree() {
        Sentence s = promise(13, "Whether two NODES are true for the same whole numbers");
        for (int v = -2; v <= 2; v++) {
            QuantifierOut out = new QuantifierOut();
            int never = out.atom(0, 0, 1, ZERO);
            int atX = out.atom(1, 0, -v, ZERO);
            int atY = out.atom(0, 1, -v, ZERO);
            int justX = out.some(Y, atX);
            int justY = out.every(X, atY);
            s.due("just x is FREE, true at " + v, false, () -> out.alike(justX, never));
            s.due("just y is FREE, true at " + v, false, () -> out.alike(never, justY));
            s.due("just x and both, at " + v, true, () -> out.alike(justX, atX));
            s.due("just y and both, at " + v, true, () -> out.alike(atY, justY));
            s.due("just x and just y, at " + v, false, () -> out.alike(justX, justY));
            int closed = out.some(X, justX);
            s.due("none is FREE, it is true", true, () -> out.alike(closed, out.not(never)));
            s.due("none is FREE, it isn't false", false, () -> out.alike(closed, never));
            s.due("none is FREE, not of it", true, () -> out.alike(never, out.not(closed)));
        }
    }

    private static void promise14HowMany() {
        Sentence s = promise(14, "How many NODES there are.");
        QuantifierOut out = new QuantifierOut();
        for (int made = 0; made < MOST_NODES; made++) {
            int so = made;
            s.due("ahead of NODE " + so, so, out::count);
            Checks.outcome(() -> so == 0 ? out.atom(1, 1, 1, ZERO) : so % 5 == 0 ? out.some(X, 0)
                : so % 5 == 1 ? out.every(Y, 0) : so % 5 == 2 ? out.both(0, 0) : so % 5 == 3 ? out.either(0, 0)
                : out.not(0));
        }
        s.due("all", 60, out::count);
        Checks.outcome(() -> out.atom(1, 1, 1, ZERO));
        s.due("behind one too many", 60, out::count);
        QuantifierOut asked = someNodes();
        asked.known(ATOM, 0);
        asked.holds(ATOM, 0, 0);
        asked.decide(CLOSED);
        asked.pieces(ONLY_X);
        asked.end(ONLY_X, 0, 0, 0);
        asked.alike(ATOM, CLOSED);
        asked.count();
        s.due("behind questions", SOME_NODES, asked::count);
    }
}
