import java.util.Arrays;
import java.util.HashMap;
import java.util.List;
import java.util.Map;
import java.util.NoSuchElementException;
import java.util.function.Supplier;

/** Checks on both sides of an edge, each under the promise and the sentence of the document for which it stands. */
final class Edge {
    /** What a call counts that throws NoSuchElementException; no call answers so. */
    static final long THROWS = Long.MIN_VALUE + 1;

    interface Call {
        long on(DiceLaw x);
    }

    interface Asked {
        long on(DiceLaw x, int[] v);
    }

    private static final List<Map<Supplier<DiceLaw>, String>> LEFT_ALONE = List.of(new HashMap<>(), new HashMap<>());
    private static String sentence = "";

    private Edge() {
    }

    /** The checks from here on stand for these words of the document; SentenceTest looks for them there. */
    static void of(String promise, String words) {
        sentence = promise + " '" + words + "' ";
    }

    static void is(String what, long got, long want) {
        Due.is(sentence + what, got, want);
    }

    static void is(String what, boolean got, boolean want) {
        Due.is(sentence + what, got, want);
    }

    static void fraction(String what, long above, long below, long wantAbove, long wantBelow) {
        Due.fraction(sentence + what, above, below, wantAbove, wantBelow);
    }

    static long clause(DiceLaw x, int law, int face) {
        try {
            return x.clause(law, face);
        } catch (NoSuchElementException e) {
            return THROWS;
        }
    }

    /** A call that is refused: it answers so, once more too, and all answers then are those without it. */
    static void refused(String what, Supplier<DiceLaw> state, long want, Call call) {
        for (int half = 0; half < 2; half++) {
            DiceLaw x = state.get();
            is(what + " is refused", call.on(x), want);
            is(what + " is refused again", call.on(x), want);
            unchanged(what, state, x, half);
        }
    }

    /** A call that asks: it answers something else than a refusal, and changes nothing. */
    private static void answered(String what, Supplier<DiceLaw> state, long refusal, Call call) {
        for (int half = 0; half < 2; half++) {
            DiceLaw x = state.get();
            is(what + " is answered", call.on(x) != refusal, true);
            unchanged(what, state, x, half);
        }
    }

    private static void unchanged(String what, Supplier<DiceLaw> state, DiceLaw x, int half) {
        String want = LEFT_ALONE.get(half).computeIfAbsent(state, s -> States.answers(s.get(), half));
        String got = States.answers(x, half);
        if (got.equals(want)) {
            is(what + " changes nothing", true, true);
            return;
        }
        String[] wanted = want.split("\n");
        String[] told = got.split("\n");
        int i = 0;
        while (i < wanted.length && i < told.length && wanted[i].equals(told[i])) {
            i++;
        }
        String differs = i < wanted.length && i < told.length ? told[i] + ", not " + wanted[i] : "the length";
        is(what + " changes nothing, but: " + differs, false, true);
    }

    /**
     * Numbers of a call that asks, each with the least and the greatest that is taken: these are answered, those on
     * both sides of them and the ends of int are refused. The first row is one that is taken.
     */
    static void asks(String name, Supplier<DiceLaw> state, long refusal, Asked call, int[] taken, int[]... bounds) {
        for (int i = 0; i < bounds.length; i++) {
            for (int v : bounds[i]) {
                int[] row = with(taken, i, v);
                answered(name + Arrays.toString(row), state, refusal, x -> call.on(x, row));
            }
        }
        outside(name, state, refusal, call, taken, bounds);
    }

    /** The same for a call that changes something: what is taken is looked at by an answer other than the refusal. */
    static void does(String name, Supplier<DiceLaw> state, long refusal, Asked call, int[] taken, int[]... bounds) {
        for (int i = 0; i < bounds.length; i++) {
            for (int v : bounds[i]) {
                int[] row = with(taken, i, v);
                is(name + Arrays.toString(row) + " is done", call.on(state.get(), row) != refusal, true);
            }
        }
        outside(name, state, refusal, call, taken, bounds);
    }

    /** Refused on both sides of the bounds, whatever the other numbers are. */
    static void outside(String name, Supplier<DiceLaw> state, long refusal, Asked call, int[] taken, int[]... bounds) {
        for (int i = 0; i < bounds.length; i++) {
            int[] wrong = {bounds[i][0] - 1, bounds[i][1] + 1, Integer.MIN_VALUE, Integer.MAX_VALUE};
            for (int v : wrong) {
                int[] row = with(taken, i, v);
                refused(name + Arrays.toString(row), state, refusal, x -> call.on(x, row));
            }
        }
    }

    private static int[] with(int[] row, int i, int v) {
        int[] other = row.clone();
        other[i] = v;
        return other;
    }
}
