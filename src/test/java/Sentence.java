import java.util.function.Function;
import java.util.function.Supplier;

/** A sentence of the document: each answer that isn't the one that is due is printed with it. */
final class Sentence {
    private final String name;

    /** Where it stands (a heading's first words), and its own words. */
    Sentence(String where, String words) {
        name = where + ", \"" + words + "\": ";
    }

    void due(String what, Object want, Checks.Call call) {
        Checks.due(name + what, want, call);
    }

    void set(String what, String want, QuantifierOut out, int p) {
        due(what, want, () -> Samples.set(out, p));
    }

    /** On an object with some NODES. */
    void refused(String call, String want, Function<QuantifierOut, Object> made) {
        refused(call, want, Samples::someNodes, made);
    }

    /** On an object with 60 NODES. */
    void refusedWhenFull(String call, String want, Function<QuantifierOut, Object> made) {
        refused("60 NODES, " + call, want, Samples::full, made);
    }

    /**
     * The call is refused, and changes nothing: behind it all answers are those of an object that never saw it. Each
     * kind of question has an object of its own, so that none is used for more than 512 calls.
     */
    void refused(String call, String want, Supplier<QuantifierOut> maker, Function<QuantifierOut, Object> made) {
        unchanged(call, want, maker, made, Sentence::allKnown);
        unchanged(call, want, maker, made, Sentence::allTruths);
        unchanged(call, want, maker, made, Sentence::allSets);
        unchanged(call, want, maker, made, Sentence::nextNumber);
        unchangedBetween(call, want, maker.get(), made);
    }

    private void unchanged(String call, String want, Supplier<QuantifierOut> maker,
            Function<QuantifierOut, Object> made, Function<QuantifierOut, String> question) {
        String answers = question.apply(maker.get());
        QuantifierOut out = maker.get();
        due(call, want, () -> made.apply(out));
        due(call + ", again", want, () -> made.apply(out));
        due("what is left behind " + call, answers, () -> question.apply(out));
    }

    /** What an object keeps of an earlier question may not be spoilt either. */
    private void unchangedBetween(String call, String want, QuantifierOut out, Function<QuantifierOut, Object> made) {
        String answers = allSets(out);
        due(call + " between questions", want, () -> made.apply(out));
        due("what is left between questions behind " + call, answers, () -> allSets(out));
    }

    private static String allKnown(QuantifierOut out) {
        StringBuilder all = new StringBuilder().append(out.count());
        for (int p = 0; p < out.count(); p++) {
            all.append(' ');
            for (int what = 0; what < 4; what++) {
                all.append(out.known(p, what));
            }
        }
        return all.toString();
    }

    private static String allTruths(QuantifierOut out) {
        StringBuilder all = new StringBuilder();
        int size = out.count();
        for (int node = 0; node < size; node++) {
            int p = node;
            all.append(' ').append(Checks.outcome(() -> out.decide(p)));
            all.append(out.holds(p, 1, -2)).append(out.holds(p, -1, 2)).append(out.holds(p, -50, 50));
            all.append(out.alike(p, Samples.ATOM));
        }
        return all.toString();
    }

    private static String allSets(QuantifierOut out) {
        StringBuilder all = new StringBuilder();
        int size = out.count();
        for (int node = 0; node < size; node++) {
            int p = node;
            all.append(' ').append(Checks.outcome(() -> Samples.set(out, p)));
        }
        return all.toString();
    }

    private static String nextNumber(QuantifierOut out) {
        String number = Checks.outcome(() -> out.atom(1, 2, 3, 0));
        return number + " " + out.count();
    }
}
