import java.util.function.Consumer;
import java.util.function.Supplier;

/** Tests of one call each at a boundary, on objects that are made for that call alone. */
final class Edge {
    private static final Class<?> INDEX = IndexOutOfBoundsException.class;
    private static final Class<?> ARGUMENT = IllegalArgumentException.class;
    private static final Class<?> STATE = IllegalStateException.class;

    private static String sentence = "";

    private Edge() {
    }

    interface CallWith {
        int on(Counted x, int argument);
    }

    /** The tests of one sentence of the document: what goes wrong in them is told under its words. */
    static void sentence(String words, Runnable tests) {
        sentence = words;
        tests.run();
        sentence = "";
    }

    static Counted with(Counted x, Consumer<Counted> calls) {
        calls.accept(x);
        return x;
    }

    static void due(String call, long got, long want) {
        Check.due(named(call), got, want);
    }

    static void index(String call, Supplier<Counted> made, Check.Call refused) {
        Check.refused(made.get(), named(call), refused, INDEX);
    }

    static void argument(String call, Supplier<Counted> made, Check.Call refused) {
        Check.refused(made.get(), named(call), refused, ARGUMENT);
    }

    static void state(String call, Supplier<Counted> made, Check.Call refused) {
        Check.refused(made.get(), named(call), refused, STATE);
    }

    /** Allowed is 0 to the highest; what is below and above names nobody and nothing. */
    static void indexOutside(String call, Supplier<Counted> made, int highest, CallWith asked) {
        outside(call, made, 0, highest, asked, INDEX);
    }

    static void argumentOutside(String call, Supplier<Counted> made, int lowest, int highest, CallWith asked) {
        outside(call, made, lowest, highest, asked, ARGUMENT);
    }

    private static void outside(String call, Supplier<Counted> made, int lowest, int highest, CallWith asked,
            Class<?> kind) {
        int[] out = {lowest - 1, highest + 1, Integer.MIN_VALUE, Integer.MAX_VALUE};
        for (int value : out) {
            Check.refused(made.get(), named(call) + " with " + value, x -> asked.on(x, value), kind);
        }
        int[] in = {lowest, highest};
        for (int value : in) {
            Counted x = made.get();
            String thrown = Check.thrownBy(() -> asked.on(x, value));
            Check.due(named(call) + " with " + value + " is in the range", thrown.equals(kind.getName()) ? 1 : 0, 0);
        }
    }

    private static String named(String call) {
        return sentence.isEmpty() ? call : "\"" + sentence + "\": " + call;
    }
}
