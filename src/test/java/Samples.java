/** Objects that the tests of boundaries start from, the numbers of their NODES, and the words of calls and answers. */
abstract class Samples {
    static final int X = 0;
    static final int Y = 1;

    static final int ZERO = 0;
    static final int BELOW = 1;
    static final int NOT_ABOVE = 2;

    static final String INDEX = "throws.IndexOutOfBoundsException";
    static final String STATE = "throws.IllegalStateException";
    static final String ARGUMENT = "throws.IllegalArgumentException";

    static final int MOST_NODES = 60;
    static final int MOST_CALLS = 512;

    // The NODES of someNodes(): letters are those that are FREE.
    static final int ATOM = 0;
    static final int ONLY_X = 1;
    static final int ONLY_Y = 2;
    static final int CLOSED = 3;
    static final int ONLY_X_DEPTH_2 = 4;
    static final int ONLY_Y_DEPTH_2 = 5;
    static final int SIZE_2 = 6;
    static final int SIZE_3 = 7;
    static final int SIZE_4 = 8;
    static final int SIZE_5 = 9;
    static final int SIZE_6 = 10;
    static final int NOT_ONLY_X = 11;
    static final int NO_PIECE = 12;
    static final int EQUATION = 13;
    static final int ONE_FRACTION = 14;
    static final int TWO_PIECES = 15;
    static final int X_Y_DEPTH_1 = 16;
    static final int X_Y_DEPTH_2 = 17;
    static final int SOME_NODES = 18;

    /** The NODE of each SIZE. */
    static final int[] OF_SIZE = {-1, ATOM, SIZE_2, SIZE_3, SIZE_4, SIZE_5, SIZE_6};

    Samples() {
    }

    static QuantifierOut someNodes() {
        QuantifierOut out = new QuantifierOut();
        out.atom(4, 0, 2, BELOW);
        out.some(Y, ATOM);
        out.every(X, ATOM);
        out.some(X, ONLY_X);
        out.every(Y, ONLY_X);
        out.some(X, ONLY_Y);
        out.both(ONLY_X, ONLY_X);
        out.either(SIZE_2, ONLY_X);
        out.both(SIZE_2, SIZE_2);
        out.either(ONLY_X, SIZE_4);
        out.both(SIZE_3, SIZE_3);
        out.not(ONLY_X);
        out.both(ONLY_X, NOT_ONLY_X);
        out.atom(5, 0, 3, ZERO);
        out.every(Y, EQUATION);
        out.not(ONE_FRACTION);
        out.either(ONLY_X, ONLY_Y);
        out.both(ONLY_X_DEPTH_2, ATOM);
        return out;
    }

    /** someNodes() and further ones, so that there is room for so many more. */
    static QuantifierOut roomFor(int more) {
        QuantifierOut out = someNodes();
        for (int made = SOME_NODES; made < MOST_NODES - more; made++) {
            out.not(ATOM);
        }
        return out;
    }

    static QuantifierOut full() {
        return roomFor(0);
    }

    /** The SET as one writes it: [ and ] at an END that belongs to it, ( and ) at one that doesn't, - for none. */
    static String set(QuantifierOut out, int p) {
        StringBuilder all = new StringBuilder();
        int size = out.pieces(p);
        for (int k = 0; k < size; k++) {
            all.append(out.end(p, k, 0, 0) == 2 ? '[' : '(').append(end(out, p, k, 0)).append(' ');
            all.append(end(out, p, k, 1)).append(out.end(p, k, 1, 0) == 2 ? ']' : ')');
        }
        return all.toString();
    }

    private static String end(QuantifierOut out, int p, int k, int side) {
        String fraction = out.end(p, k, side, 1) + "/" + out.end(p, k, side, 2);
        if (out.end(p, k, side, 0) != 0) {
            return fraction;
        }
        return fraction.equals("0/1") ? "-" : "none but " + fraction;
    }
}
