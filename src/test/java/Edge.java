import java.util.function.Consumer;
import java.util.function.Supplier;

/** Tests of one call each at a boundary, on objects that are made for that call alone. */
final class Edge {
    private static final Class<?> INDEX = IndexOutOfBoundsException.class;
    private static final Class<?> ARGUMENT = IllegalArgumentException.class;
    private static final Class<?> STATE = IllegalStateException.class;

    private static String sentence = "";

    private Edge() {
    }

    interface Call {
        int on(SusuRing x);
    }

    interface CallWith {
        int on(SusuRing x, int argument);
    }

    /** The tests of one sentence of the document: what goes wrong in them is told under its words. */
    static void sentence(String words, Runnable tests) {
        sentence = words;
        tests.run();
        sentence = "";
    }

    static SusuRing with(SusuRing x, Consumer<SusuRing> calls) {
        calls.accept(x);
        return x;
    }

    static void due(String call, long got, long want) {
        Check.due(named(call), got, want);
    }

    static void index(String call, Supplier<SusuRing> made, Call refused) {
        refused(call, made, refused, INDEX);
    }

    static void argument(String call, Supplier<SusuRing> made, Call refused) {
        refused(call, made, refused, ARGUMENT);
    }

    static void state(String call, Supplier<SusuRing> made, Call refused) {
        refused(call, made, refused, STATE);
    }

    /** Allowed is 0 to the highest; what is below and above names nobody and nothing. */
    static void indexOutside(String call, Supplier<SusuRing> made, int highest, CallWith asked) {
        outside(call, made, 0, highest, asked, INDEX);
    }

    static void argumentOutside(String call, Supplier<SusuRing> made, int lowest, int highest, CallWith asked) {
        outside(call, made, lowest, highest, asked, ARGUMENT);
    }

    private static void outside(String call, Supplier<SusuRing> made, int lowest, int highest, CallWith asked,
            Class<?> kind) {
        int[] out = {lowest - 1, highest + 1, Integer.MIN_VALUE, Integer.MAX_VALUE};
        for (int value : out) {
            refused(call + " with " + value, made, x -> asked.on(x, value), kind);
        }
        int[] in = {lowest, highest};
        for (int value : in) {
            String thrown = thrownBy(made.get(), x -> asked.on(x, value));
            Check.due(named(call) + " with " + value + " is in the range", thrown.equals(kind.getName()) ? 1 : 0, 0);
        }
    }

    /** The twin is not called: both must answer the same from here on, whatever is asked or done. */
    private static void refused(String call, Supplier<SusuRing> made, Call refused, Class<?> kind) {
        SusuRing x = made.get();
        SusuRing twin = made.get();
        Check.due(named(call) + " throws", thrownBy(x, refused), kind.getName());
        Check.due(named(call) + " changes nothing", future(x), future(twin));
    }

    private static String named(String call) {
        return sentence.isEmpty() ? call : "\"" + sentence + "\": " + call;
    }

    static String thrownBy(SusuRing x, Call call) {
        try {
            call.on(x);
        } catch (RuntimeException e) {
            return Check.isThrownByClass(e) ? e.getClass().getName() : "by the machine or the library";
        }
        return "nothing";
    }

    /** What the object answers from now on, so that what no question tells comes out too. */
    static String future(SusuRing x) {
        StringBuilder all = new StringBuilder(Check.state(x));
        int people = Check.people(x);
        int circles = Check.circles(x);
        tellBooksAndWants(x, people, circles, all);
        for (int p = 0; p < people; p++) {
            int person = p;
            tell(x, y -> y.earn(person, 1000 + person), all);
        }
        for (int round = 0; round < 8; round++) {
            tell(x, y -> y.month(false), all);
            all.append(Check.state(x));
        }
        for (int c = 0; c < circles; c++) {
            tellMeetings(x, c, all);
        }
        for (int p = 0; p < people; p++) {
            int person = p;
            tell(x, y -> y.earn(person, 1000), all);
            tell(x, y -> y.borrow(person, 20, (person + 1) % people, (person + 2) % people), all);
            tell(x, y -> y.repay(person, 10000), all);
        }
        tell(x, SusuRing::feast, all);
        tell(x, y -> y.person(30, 12345), all);
        tell(x, y -> y.circle(5, SusuRing.NEED), all);
        return all.append(Check.state(x)).toString();
    }

    private static void tellBooksAndWants(SusuRing x, int people, int circles, StringBuilder all) {
        for (int p = 0; p < people; p++) {
            int person = p;
            for (int b = 0; b <= 2; b++) {
                int book = b;
                tell(x, y -> y.note(book, person, 0), all);
            }
            for (int c = 0; c < circles; c++) {
                int circle = c;
                tell(x, y -> y.want(circle, person, 0, true), all);
                tell(x, y -> y.want(circle, person, 0, false), all);
            }
        }
    }

    private static void tellMeetings(SusuRing x, int circle, StringBuilder all) {
        tell(x, y -> y.start(circle, 5), all);
        for (int meeting = 0; meeting < 4; meeting++) {
            tell(x, y -> y.meet(circle, false), all);
            all.append(Check.state(x));
        }
    }

    private static void tell(SusuRing x, Call call, StringBuilder all) {
        int[] answer = {0};
        String thrown = thrownBy(x, y -> answer[0] = call.on(y));
        all.append('\n').append(thrown).append(' ').append(answer[0]);
    }
}
