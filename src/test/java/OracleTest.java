import java.math.BigInteger;
import java.util.ArrayList;
import java.util.List;
import java.util.Random;

/**
 * Chance formulas (always the same ones), judged in another way than the class does: sets of fractions are kept as
 * rows of intervals, and a quantifier is done away with by combining its lower and upper bounds (Fourier, Motzkin).
 */
public final class OracleTest {
    private static final int OBJECTS = 3000;
    private static final int MOST_CALLS = 500;
    private static final String STATE = "throws.IllegalStateException";

    record Frac(BigInteger above, BigInteger below) implements Comparable<Frac> {
        static Frac of(long above, long below) {
            return of(BigInteger.valueOf(above), BigInteger.valueOf(below));
        }

        static Frac of(BigInteger above, BigInteger below) {
            BigInteger divisor = above.gcd(below);
            if (below.signum() < 0) {
                divisor = divisor.negate();
            }
            return new Frac(above.divide(divisor), below.divide(divisor));
        }

        Frac plus(Frac o) {
            return of(above.multiply(o.below).add(o.above.multiply(below)), below.multiply(o.below));
        }

        Frac times(Frac o) {
            return of(above.multiply(o.above), below.multiply(o.below));
        }

        Frac over(Frac o) {
            return of(above.multiply(o.below), below.multiply(o.above));
        }

        Frac negated() {
            return of(above.negate(), below);
        }

        int sign() {
            return above.signum();
        }

        @Override
        public int compareTo(Frac o) {
            return above.multiply(o.below).compareTo(o.above.multiply(below));
        }
    }

    /** An end that is null is none. */
    record Span(Frac left, boolean withLeft, Frac right, boolean withRight) {
        boolean isEmpty() {
            if (left == null || right == null) {
                return false;
            }
            int order = left.compareTo(right);
            return order > 0 || order == 0 && !(withLeft && withRight);
        }

        Span meet(Span o) {
            Frac l = left;
            boolean wl = withLeft;
            if (l == null || o.left != null && o.left.compareTo(l) > 0) {
                l = o.left;
                wl = o.withLeft;
            } else if (o.left != null && o.left.compareTo(l) == 0) {
                wl = wl && o.withLeft;
            }
            Frac r = right;
            boolean wr = withRight;
            if (r == null || o.right != null && o.right.compareTo(r) < 0) {
                r = o.right;
                wr = o.withRight;
            } else if (o.right != null && o.right.compareTo(r) == 0) {
                wr = wr && o.withRight;
            }
            return new Span(l, wl, r, wr);
        }
    }

    private static final Span LINE = new Span(null, false, null, false);

    static List<Span> meet(List<Span> p, List<Span> q) {
        List<Span> all = new ArrayList<>();
        for (Span a : p) {
            for (Span b : q) {
                Span c = a.meet(b);
                if (!c.isEmpty()) {
                    all.add(c);
                }
            }
        }
        return all;
    }

    static List<Span> without(List<Span> p) {
        List<Span> gaps = List.of(LINE);
        for (Span a : p) {
            List<Span> sides = new ArrayList<>();
            if (a.left != null) {
                sides.add(new Span(null, false, a.left, !a.withLeft));
            }
            if (a.right != null) {
                sides.add(new Span(a.right, !a.withRight, null, false));
            }
            gaps = meet(gaps, sides);
        }
        return gaps;
    }

    static List<Span> join(List<Span> p, List<Span> q) {
        return without(meet(without(p), without(q)));
    }

    /** of * letter + rest is 0 (op 0), below 0 (1), not above 0 (2). */
    static List<Span> solve(Frac of, Frac rest, int op) {
        if (of.sign() == 0) {
            boolean truth = op == 0 ? rest.sign() == 0 : op == 1 ? rest.sign() < 0 : rest.sign() <= 0;
            return truth ? List.of(LINE) : List.of();
        }
        Frac zero = rest.negated().over(of);
        if (op == 0) {
            return List.of(new Span(zero, true, zero, true));
        }
        boolean with = op == 2;
        return List.of(of.sign() > 0 ? new Span(null, false, zero, with) : new Span(zero, with, null, false));
    }

    /** kind: a(tom), b(oth), e(ither), n(ot), s(ome), f(or every). */
    static final class Tree {
        final char kind;
        final int[] parts;
        final Tree first;
        final Tree second;

        Tree(char kind, int[] parts, Tree first, Tree second) {
            this.kind = kind;
            this.parts = parts;
            this.first = first;
            this.second = second;
        }

        boolean free(int letter) {
            switch (kind) {
                case 'a':
                    return true;
                case 'b':
                case 'e':
                    return first.free(letter) || second.free(letter);
                case 'n':
                    return first.free(letter);
                default:
                    return parts[0] != letter && first.free(letter);
            }
        }

        int size() {
            return kind == 'a' ? 1 : first.size() + (second == null ? 0 : second.size());
        }

        int depth() {
            if (kind == 'a') {
                return 0;
            }
            int most = Math.max(first.depth(), second == null ? 0 : second.depth());
            return kind == 's' || kind == 'f' ? most + 1 : most;
        }

        boolean truth(Frac[] at) {
            switch (kind) {
                case 'a':
                    Frac rest = factor(1).times(at[1]).plus(factor(2));
                    return !solve(Frac.of(0, 1), factor(0).times(at[0]).plus(rest), parts[3]).isEmpty();
                case 'b':
                    return first.truth(at) && second.truth(at);
                case 'e':
                    return first.truth(at) || second.truth(at);
                case 'n':
                    return !first.truth(at);
                case 's':
                    return !first.set(parts[0], at[1 - parts[0]]).isEmpty();
                default:
                    return without(first.set(parts[0], at[1 - parts[0]])).isEmpty();
            }
        }

        private Frac factor(int i) {
            return Frac.of(parts[i], 1);
        }

        /** Where it is true in place of letter, with value in place of the other one. */
        List<Span> set(int letter, Frac value) {
            int other = 1 - letter;
            switch (kind) {
                case 'a':
                    return solve(factor(letter), factor(other).times(value).plus(factor(2)), parts[3]);
                case 'b':
                    return meet(first.set(letter, value), second.set(letter, value));
                case 'e':
                    return join(first.set(letter, value), second.set(letter, value));
                case 'n':
                    return without(first.set(letter, value));
                default:
                    break;
            }
            if (parts[0] == letter) {
                Frac[] at = new Frac[2];
                at[other] = value;
                return truth(at) ? List.of(LINE) : List.of();
            }
            boolean wantsAll = kind == 'f';
            List<Span> found = List.of();
            for (List<Part> conjunct : first.cases(wantsAll)) {
                found = join(found, eliminate(conjunct, letter));
            }
            return wantsAll ? without(found) : found;
        }

        /** All ways for it (or its opposite) to be true, each a row of what must then hold. */
        List<List<Part>> cases(boolean opposite) {
            switch (kind) {
                case 'a':
                    return atomCases(opposite);
                case 'n':
                    return first.cases(!opposite);
                default:
                    break;
            }
            List<List<Part>> p = first.cases(opposite);
            List<List<Part>> q = second.cases(opposite);
            List<List<Part>> all = new ArrayList<>();
            if ((kind == 'e') != opposite) {
                all.addAll(p);
                all.addAll(q);
                return all;
            }
            for (List<Part> a : p) {
                for (List<Part> b : q) {
                    List<Part> row = new ArrayList<>(a);
                    row.addAll(b);
                    all.add(row);
                }
            }
            return all;
        }

        private List<List<Part>> atomCases(boolean opposite) {
            Part as = new Part(factor(0), factor(1), factor(2), parts[3]);
            Part turned = new Part(factor(0).negated(), factor(1).negated(), factor(2).negated(), 1);
            if (!opposite) {
                return List.of(List.of(as));
            }
            if (parts[3] == 0) {
                return List.of(List.of(new Part(as.x, as.y, as.c, 1)), List.of(turned));
            }
            return List.of(List.of(new Part(turned.x, turned.y, turned.c, 3 - parts[3])));
        }
    }

    record Part(Frac x, Frac y, Frac c, int op) {
        Frac of(int letter) {
            return letter == 0 ? x : y;
        }

        Part plus(Part o, Frac times, int newOp) {
            return new Part(x.plus(o.x.times(times)), y.plus(o.y.times(times)), c.plus(o.c.times(times)), newOp);
        }
    }

    /** Where in place of letter there is a value for the other one with which all parts hold. */
    static List<Span> eliminate(List<Part> parts, int letter) {
        int gone = 1 - letter;
        for (Part equal : parts) {
            if (equal.op == 0 && equal.of(gone).sign() != 0) {
                List<Span> found = List.of(LINE);
                for (Part p : parts) {
                    Part q = p.plus(equal, p.of(gone).over(equal.of(gone)).negated(), p.op);
                    found = meet(found, solve(q.of(letter), q.c, q.op));
                }
                return found;
            }
        }
        List<Span> found = List.of(LINE);
        for (Part p : parts) {
            if (p.of(gone).sign() == 0) {
                found = meet(found, solve(p.of(letter), p.c, p.op));
            }
            for (Part q : parts) {
                if (p.of(gone).sign() > 0 && q.of(gone).sign() < 0) {
                    int op = p.op == 1 || q.op == 1 ? 1 : 2;
                    Part r = p.plus(q, p.of(gone).over(q.of(gone)).negated(), op);
                    found = meet(found, solve(r.of(letter), r.c, op));
                }
            }
        }
        return found;
    }

    private final Random random;
    private final QuantifierOut out = new QuantifierOut();
    private final List<Tree> trees = new ArrayList<>();
    private final String name;
    private int calls = 0;

    private OracleTest(long seed) {
        random = new Random(seed);
        name = "seed " + seed + ": ";
    }

    private void due(String call, Object want, Checks.Call made) {
        if (calls < MOST_CALLS) {
            calls++;
            Checks.due(name + call, want, made);
        }
    }

    private int pick() {
        int back = random.nextInt(3) == 0 ? random.nextInt(trees.size()) : random.nextInt(Math.min(4, trees.size()));
        return trees.size() - 1 - back;
    }

    private void grow(int range) {
        int kind = trees.size() < 3 ? 0 : random.nextInt(12);
        int next = trees.size();
        if (kind < 3) {
            int[] parts = {near(range), near(range), near(range), random.nextInt(3)};
            keep(new Tree('a', parts, null, null), "atom" + List.of(parts[0], parts[1], parts[2], parts[3]),
                () -> out.atom(parts[0], parts[1], parts[2], parts[3]));
        } else if (kind < 8) {
            int p = pick();
            int q = pick();
            boolean both = kind < 6;
            Tree tree = new Tree(both ? 'b' : 'e', null, trees.get(p), trees.get(q));
            keep(tree, (both ? "both" : "either") + List.of(p, q), () -> both ? out.both(p, q) : out.either(p, q));
        } else if (kind < 9) {
            int p = pick();
            keep(new Tree('n', null, trees.get(p), null), "not(" + p, () -> out.not(p));
        } else {
            int p = pick();
            int letter = random.nextInt(2);
            boolean some = random.nextBoolean();
            Tree tree = new Tree(some ? 's' : 'f', new int[] {letter}, trees.get(p), null);
            keep(tree, (some ? "some" : "every") + List.of(letter, p),
                () -> some ? out.some(letter, p) : out.every(letter, p));
        }
        due("count()", trees.size(), out::count);
        if (trees.size() > next) {
            look(next);
        }
    }

    private int near(int range) {
        return random.nextInt(2 * range + 1) - range;
    }

    private void keep(Tree tree, String call, Checks.Call made) {
        boolean fits = tree.size() <= 6 && tree.depth() <= 2;
        due(call, fits ? trees.size() : "throws.IllegalArgumentException", made);
        if (fits) {
            trees.add(tree);
        }
    }

    private void look(int p) {
        Tree tree = trees.get(p);
        due("known(" + p + ", 0)", tree.free(0) ? 1 : 0, () -> out.known(p, 0));
        due("known(" + p + ", 1)", tree.free(1) ? 1 : 0, () -> out.known(p, 1));
        due("known(" + p + ", 2)", tree.size(), () -> out.known(p, 2));
        due("known(" + p + ", 3)", tree.depth(), () -> out.known(p, 3));
        for (int i = 0; i < 4; i++) {
            int range = i % 2 == 0 ? 3 : 50;
            int x = near(range);
            int y = near(range);
            due("holds" + List.of(p, x, y), truth(tree, x, y) ? 1 : 0, () -> out.holds(p, x, y));
        }
        boolean closed = !tree.free(0) && !tree.free(1);
        due("decide(" + p + ")", closed ? truth(tree, 7, -7) ? 1 : 0 : STATE, () -> out.decide(p));
        int q = pick();
        due("alike" + List.of(p, q), grid(tree).equals(grid(trees.get(q))) ? 1 : 0, () -> out.alike(p, q));
        lookAtPieces(p, tree);
    }

    private static boolean truth(Tree tree, int x, int y) {
        return tree.truth(new Frac[] {Frac.of(x, 1), Frac.of(y, 1)});
    }

    private static String grid(Tree tree) {
        StringBuilder grid = new StringBuilder();
        for (int x = -2; x <= 2; x++) {
            for (int y = -2; y <= 2; y++) {
                grid.append(truth(tree, x, y) ? '1' : '0');
            }
        }
        return grid.toString();
    }

    private void lookAtPieces(int p, Tree tree) {
        if (tree.free(0) == tree.free(1) || tree.depth() > 1) {
            due("pieces(" + p + ")", STATE, () -> out.pieces(p));
            due("end(" + p + ", ..)", STATE, () -> out.end(p, 0, 0, 0));
            return;
        }
        List<Span> set = tree.set(tree.free(0) ? 0 : 1, Frac.of(0, 1));
        due("pieces(" + p + ")", set.size(), () -> out.pieces(p));
        for (int i = 0; i < set.size(); i++) {
            int k = i;
            Span span = set.get(k);
            for (int s = 0; s < 2; s++) {
                int side = s;
                Frac end = side == 0 ? span.left : span.right;
                boolean with = side == 0 ? span.withLeft : span.withRight;
                due("end" + List.of(p, k, side, 0), end == null ? 0 : with ? 2 : 1, () -> out.end(p, k, side, 0));
                due("end" + List.of(p, k, side, 1), end == null ? 0 : end.above, () -> out.end(p, k, side, 1));
                due("end" + List.of(p, k, side, 2), end == null ? 1 : end.below, () -> out.end(p, k, side, 2));
            }
        }
        due("end" + List.of(p, set.size()), "throws.IndexOutOfBoundsException", () -> out.end(p, set.size(), 0, 0));
    }

    public static void main(String[] args) {
        for (int seed = 1; seed <= OBJECTS; seed++) {
            OracleTest test = new OracleTest(seed);
            int range = 1 + seed % 5;
            while (test.calls < MOST_CALLS && test.trees.size() < 60) {
                test.grow(range);
            }
        }
        Checks.finish();
    }
}
