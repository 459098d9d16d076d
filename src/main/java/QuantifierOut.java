/**
 * Formulas about two numbers x and y, made of linear equations and inequalities: which are true, where, and in
 * which pieces of the line. The words in capitals are those of the document, ../shared/DOC.md.
 */
public final class QuantifierOut {
    private static final int MOST_NODES = 60;
    private static final int MOST_SIZE = 6;
    private static final int MOST_DEPTH = 2;
    private static final int MOST_SET_DEPTH = 1;
    private static final int MOST_FACTOR = 5;
    private static final int MOST_VALUE = 50;

    private static final int X = 0;
    private static final int Y = 1;
    private static final int ONLY_X = 1 << X;
    private static final int ONLY_Y = 1 << Y;

    private static final int IS_ZERO = 0;
    private static final int IS_BELOW = 1;
    private static final int IS_NOT_ABOVE = 2;

    private static final int LEFT = 0;
    private static final int RIGHT = 1;

    private static final int END_KIND = 0;
    private static final int END_ABOVE = 1;
    private static final int END_BELOW = 2;

    private final Node[] nodes;
    private final Values values;
    private final Pieces row;
    private int made;

    public QuantifierOut() {
        nodes = new Node[MOST_NODES];
        values = new Values();
        row = new Pieces();
        made = 0;
    }

    public int atom(int a, int b, int c, int op) throws IllegalStateException, IllegalArgumentException {
        checkRoom();
        if (!isFactor(a) || !isFactor(b) || !isFactor(c)) {
            throw new IllegalArgumentException("a, b and c are -5 .. 5");
        }
        if (op != IS_ZERO && op != IS_BELOW && op != IS_NOT_ABOVE) {
            throw new IllegalArgumentException("op is 0, 1 or 2");
        }
        return add(new Atom(a, b, c, op));
    }

    public int both(int p, int q)
            throws IndexOutOfBoundsException, IllegalStateException, IllegalArgumentException {
        return addPair(p, q, true);
    }

    public int either(int p, int q)
            throws IndexOutOfBoundsException, IllegalStateException, IllegalArgumentException {
        return addPair(p, q, false);
    }

    public int not(int p) throws IndexOutOfBoundsException, IllegalStateException {
        Node node = nodeAt(p);
        checkRoom();
        return add(node.opposite());
    }

    public int some(int letter, int p)
            throws IndexOutOfBoundsException, IllegalStateException, IllegalArgumentException {
        return addQuantified(letter, p, false);
    }

    public int every(int letter, int p)
            throws IndexOutOfBoundsException, IllegalStateException, IllegalArgumentException {
        return addQuantified(letter, p, true);
    }

    public int known(int p, int what) throws IndexOutOfBoundsException, IllegalArgumentException {
        Node node = nodeAt(p);
        switch (what) {
            case 0:
                return node.isFree(X) ? 1 : 0;
            case 1:
                return node.isFree(Y) ? 1 : 0;
            case 2:
                return node.size();
            case 3:
                return node.depth;
            default:
                throw new IllegalArgumentException("what is 0 .. 3");
        }
    }

    public boolean holds(int p, int x, int y) throws IndexOutOfBoundsException, IllegalArgumentException {
        Node node = nodeAt(p);
        if (!isValue(x) || !isValue(y)) {
            throw new IllegalArgumentException("x and y are -50 .. 50");
        }
        values.putWhole(x, y);
        return node.isTrueAt(values);
    }

    public boolean decide(int p) throws IndexOutOfBoundsException, IllegalStateException {
        Node node = nodeAt(p);
        if (node.free != 0) {
            throw new IllegalStateException("x or y is free");
        }
        values.putWhole(0, 0);
        return node.isTrueAt(values);
    }

    public int pieces(int p) throws IndexOutOfBoundsException, IllegalStateException {
        findPieces(p);
        return row.size;
    }

    public long end(int p, int k, int side, int part)
            throws IndexOutOfBoundsException, IllegalStateException, IllegalArgumentException {
        findPieces(p);
        if (k < 0 || k >= row.size) {
            throw new IndexOutOfBoundsException("no such piece");
        }
        if (side != LEFT && side != RIGHT) {
            throw new IllegalArgumentException("side is 0 or 1");
        }
        if (part != END_KIND && part != END_ABOVE && part != END_BELOW) {
            throw new IllegalArgumentException("part is 0, 1 or 2");
        }
        return row.partOfEnd(k, side, part);
    }

    public boolean alike(int p, int q) throws IndexOutOfBoundsException {
        Node first = nodeAt(p);
        Node second = nodeAt(q);
        return first.grid(values) == second.grid(values);
    }

    public int count() {
        return made;
    }

    private static boolean isFactor(int number) {
        return number >= -MOST_FACTOR && number <= MOST_FACTOR;
    }

    private static boolean isValue(int number) {
        return number >= -MOST_VALUE && number <= MOST_VALUE;
    }

    private Node nodeAt(int p) {
        if (p < 0 || p >= made || p >= nodes.length || nodes[p] == null) {
            throw new IndexOutOfBoundsException("no such node");
        }
        return nodes[p];
    }

    private void checkRoom() {
        if (made >= nodes.length) {
            throw new IllegalStateException("60 nodes are there");
        }
    }

    /** Callers have looked for room: it comes ahead of other faults of theirs. */
    private int add(Node node) {
        int number = made;
        if (number < nodes.length) {
            nodes[number] = node;
            made = number + 1;
        }
        return number;
    }

    private int addPair(int p, int q, boolean needsBoth) {
        Node first = nodeAt(p);
        Node second = nodeAt(q);
        checkRoom();
        if (first.size() + second.size() > MOST_SIZE) {
            throw new IllegalArgumentException("the size would be above 6");
        }
        return add(new Pair(first, second, needsBoth));
    }

    private int addQuantified(int letter, int p, boolean wantsAll) {
        Node body = nodeAt(p);
        checkRoom();
        if (letter != X && letter != Y) {
            throw new IllegalArgumentException("letter is 0 or 1");
        }
        if (body.depth >= MOST_DEPTH) {
            throw new IllegalArgumentException("the depth would be above 2");
        }
        return add(new Quantified(letter, body, wantsAll));
    }

    private void findPieces(int p) {
        Node node = nodeAt(p);
        boolean oneLetter = node.free == ONLY_X || node.free == ONLY_Y;
        if (!oneLetter || node.depth > MOST_SET_DEPTH) {
            throw new IllegalStateException("it has no set");
        }
        row.find(node, values);
    }

    /** A NODE; it never changes, so others may share it. */
    private abstract static class Node {
        static final int LINE = 3;
        static final int GRID_SIDE = 5;
        static final int GRID_LEAST = -2;
        static final int WHOLE_GRID = (1 << GRID_SIDE * GRID_SIDE) - 1;
        static final int NOT_YET = -1;

        /** A bit for each FREE letter. */
        final int free;
        final int depth;
        /** a, b and c of each of its ATOMS, one behind the other. */
        final int[] lines;
        private int grid;

        Node(int free, int depth, int[] lines) {
            this.free = free;
            this.depth = depth;
            this.lines = lines;
            this.grid = NOT_YET;
        }

        abstract boolean isTrueAt(Values values);

        /** NOT of this. */
        Node opposite() {
            return new Negation(this);
        }

        final int size() {
            return lines.length / LINE;
        }

        final boolean isFree(int letter) {
            return (free >> letter & 1) == 1;
        }

        /** A bit for each pair of whole x, y from -2 to 2; kept, as it is dear for deep NODES. */
        final int grid(Values values) {
            if (grid == NOT_YET) {
                grid = findGrid(values);
            }
            return grid;
        }

        int findGrid(Values values) {
            int found = 0;
            for (int place = 0; place < GRID_SIDE * GRID_SIDE; place++) {
                int x = place / GRID_SIDE;
                int y = place % GRID_SIDE;
                // The first value of a letter that isn't FREE answers for its others.
                int twin = (isFree(X) ? x : 0) * GRID_SIDE + (isFree(Y) ? y : 0);
                boolean truth;
                if (twin < place) {
                    truth = (found >> twin & 1) == 1;
                } else {
                    values.putWhole(x + GRID_LEAST, y + GRID_LEAST);
                    truth = isTrueAt(values);
                }
                if (truth) {
                    found |= 1 << place;
                }
            }
            return found;
        }
    }

    private static final class Atom extends Node {
        private final int a;
        private final int b;
        private final int c;
        private final int op;

        Atom(int a, int b, int c, int op) {
            super(ONLY_X | ONLY_Y, 0, new int[] {a, b, c});
            this.a = a;
            this.b = b;
            this.c = c;
            this.op = op;
        }

        boolean isTrueAt(Values values) {
            long xBelow = values.below[X];
            long yBelow = values.below[Y];
            // Both are above 0, so this has the sign of a x + b y + c.
            long sum = a * values.above[X] * yBelow + b * values.above[Y] * xBelow + c * xBelow * yBelow;
            switch (op) {
                case IS_ZERO:
                    return sum == 0;
                case IS_BELOW:
                    return sum < 0;
                default:
                    return sum <= 0;
            }
        }
    }

    /** BOTH or EITHER. */
    private static final class Pair extends Node {
        private final Node first;
        private final Node second;
        private final boolean needsBoth;

        Pair(Node first, Node second, boolean needsBoth) {
            super(first.free | second.free, Math.max(first.depth, second.depth), join(first.lines, second.lines));
            this.first = first;
            this.second = second;
            this.needsBoth = needsBoth;
        }

        private static int[] join(int[] left, int[] right) {
            int[] joined = new int[left.length + right.length];
            System.arraycopy(left, 0, joined, 0, left.length);
            System.arraycopy(right, 0, joined, left.length, right.length);
            return joined;
        }

        boolean isTrueAt(Values values) {
            if (needsBoth) {
                return first.isTrueAt(values) && second.isTrueAt(values);
            }
            return first.isTrueAt(values) || second.isTrueAt(values);
        }

        int findGrid(Values values) {
            int left = first.grid(values);
            int right = second.grid(values);
            return needsBoth ? left & right : left | right;
        }
    }

    private static final class Negation extends Node {
        private final Node body;

        Negation(Node body) {
            super(body.free, body.depth, body.lines);
            this.body = body;
        }

        /** So that no chain of NOT grows: SIZE and DEPTH, which are small, then bound how deep calls go. */
        Node opposite() {
            return body;
        }

        boolean isTrueAt(Values values) {
            return !body.isTrueAt(values);
        }

        int findGrid(Values values) {
            return WHOLE_GRID & ~body.grid(values);
        }
    }

    /** SOME or EVERY. */
    private static final class Quantified extends Node {
        private final int letter;
        private final Node body;
        private final boolean wantsAll;

        Quantified(int letter, Node body, boolean wantsAll) {
            super(body.free & ~(1 << letter), body.depth + 1, body.lines);
            this.letter = letter;
            this.body = body;
            this.wantsAll = wantsAll;
        }

        boolean isTrueAt(Values values) {
            long keptAbove = values.above[letter];
            long keptBelow = values.below[letter];
            Marks marks = values.marksFor(depth);
            marks.gather(body, letter, values);
            boolean truth = wantsAll;
            for (int stop = 0; stop < marks.stops() && truth == wantsAll; stop++) {
                marks.moveTo(stop, letter, values);
                truth = body.isTrueAt(values);
            }
            values.put(letter, keptAbove, keptBelow);
            return truth;
        }
    }

    /** What stands in place of x and y, and the rows that quantifiers write on at work. */
    private static final class Values {
        final long[] above;
        /** Always above 0. */
        final long[] below;
        private final Marks outerMarks;
        private final Marks innerMarks;

        Values() {
            above = new long[] {0, 0};
            below = new long[] {1, 1};
            outerMarks = new Marks();
            innerMarks = new Marks();
        }

        void put(int letter, long newAbove, long newBelow) {
            above[letter] = newAbove;
            below[letter] = newBelow;
        }

        void putWhole(int x, int y) {
            put(X, x, 1);
            put(Y, y, 1);
        }

        /** A quantifier inside another has a smaller DEPTH, so the two never share a row. */
        Marks marksFor(int depth) {
            return depth < MOST_DEPTH ? innerMarks : outerMarks;
        }
    }

    /**
     * A rising row of fractions in place of one letter, beside which the truth of a NODE doesn't change: all between
     * two neighbours, and all beyond the last on a side, are alike to it. So it is enough to look at the STOPS: stop
     * 2 i + 1 is mark i, stop 2 i a fraction just ahead of mark i, or behind the last.
     */
    private static final class Marks {
        /** One for each of 6 lines and one for each of their 15 pairs. */
        static final int MOST = 21;
        static final int MOST_GCD_STEPS = 100;

        private final long[] above;
        /** Always above 0. */
        private final long[] below;
        private int size;

        Marks() {
            above = new long[MOST];
            below = new long[MOST];
            size = 0;
        }

        int stops() {
            return 2 * size + 1;
        }

        /**
         * A line can change the truth where it meets the other letter's value, and where it meets another line, as
         * there the order changes in which a quantifier over the other letter meets them.
         */
        void gather(Node node, int letter, Values values) {
            size = 0;
            if (!node.isFree(letter)) {
                return;
            }
            int[] lines = node.lines;
            for (int i = 0; i + Node.LINE <= lines.length; i += Node.LINE) {
                markValue(lines, i, letter, values);
                for (int j = 0; j < i && node.depth > 0; j += Node.LINE) {
                    markCrossing(lines, i, j, letter);
                }
            }
        }

        private void markValue(int[] lines, int i, int letter, Values values) {
            int other = 1 - letter;
            long otherBelow = values.below[other];
            long rest = lines[i + other] * values.above[other] + lines[i + 2] * otherBelow;
            insert(-rest, lines[i + letter] * otherBelow);
        }

        private void markCrossing(int[] lines, int i, int j, int letter) {
            int other = 1 - letter;
            int divisor = lines[i + letter] * lines[j + other] - lines[j + letter] * lines[i + other];
            int rest = lines[i + 2] * lines[j + other] - lines[j + 2] * lines[i + other];
            insert(-rest, divisor);
        }

        /** Below is 0 where a line runs along what it should meet: it marks nothing then. */
        private void insert(long newAbove, long newBelow) {
            if (newBelow == 0 || size >= MOST) {
                return;
            }
            long up = newBelow < 0 ? -newAbove : newAbove;
            long down = newBelow < 0 ? -newBelow : newBelow;
            int place = size;
            while (place > 0 && above[place - 1] * down > up * below[place - 1]) {
                place--;
            }
            if (place > 0 && above[place - 1] * down == up * below[place - 1]) {
                return;
            }
            System.arraycopy(above, place, above, place + 1, size - place);
            System.arraycopy(below, place, below, place + 1, size - place);
            above[place] = up;
            below[place] = down;
            size++;
        }

        void moveTo(int stop, int letter, Values values) {
            int next = stop / 2;
            if (size == 0) {
                values.put(letter, 0, 1);
            } else if (stop % 2 == 1 && next < size) {
                values.put(letter, above[next], below[next]);
            } else if (next == 0) {
                values.put(letter, above[0] - below[0], below[0]);
            } else if (next >= size) {
                values.put(letter, above[size - 1] + below[size - 1], below[size - 1]);
            } else {
                // The mediant lies between the two as the middle does, and its parts stay small.
                values.put(letter, above[next - 1] + above[next], below[next - 1] + below[next]);
            }
        }

        long lowestAbove(int mark) {
            return above[mark] / divisorOf(mark);
        }

        long lowestBelow(int mark) {
            return below[mark] / divisorOf(mark);
        }

        /** The greatest that divides both parts. */
        private long divisorOf(int mark) {
            long great = below[mark];
            long small = Math.abs(above[mark]);
            for (int step = 0; step < MOST_GCD_STEPS && small != 0; step++) {
                long rest = great % small;
                great = small;
                small = rest;
            }
            return Math.max(great, 1);
        }
    }

    /** The PIECES of the NODE last asked for. */
    private static final class Pieces {
        static final int MOST = Marks.MOST + 1;

        private final Marks marks;
        private final int[] firstStop;
        private final int[] lastStop;
        private int size;
        private Node owner;

        Pieces() {
            marks = new Marks();
            firstStop = new int[MOST];
            lastStop = new int[MOST];
            size = 0;
            owner = null;
        }

        /** Each PIECE is a longest run of stops at which the NODE is true. */
        void find(Node node, Values values) {
            if (node == owner) {
                return;
            }
            owner = node;
            size = 0;
            int letter = node.isFree(X) ? X : Y;
            values.putWhole(0, 0);
            marks.gather(node, letter, values);
            boolean inPiece = false;
            for (int stop = 0; stop < marks.stops(); stop++) {
                marks.moveTo(stop, letter, values);
                boolean truth = node.isTrueAt(values);
                if (truth && !inPiece && size < MOST) {
                    firstStop[size] = stop;
                    size++;
                }
                if (truth && size > 0) {
                    lastStop[size - 1] = stop;
                }
                inPiece = truth;
            }
        }

        long partOfEnd(int k, int side, int part) {
            int stop = side == LEFT ? firstStop[k] : lastStop[k];
            boolean endless = side == LEFT ? stop == 0 : stop == marks.stops() - 1;
            if (endless) {
                return part == END_BELOW ? 1 : 0;
            }
            boolean belongs = stop % 2 == 1;
            if (part == END_KIND) {
                return belongs ? 2 : 1;
            }
            int mark = belongs || side == RIGHT ? stop / 2 : stop / 2 - 1;
            return part == END_ABOVE ? marks.lowestAbove(mark) : marks.lowestBelow(mark);
        }
    }
}
