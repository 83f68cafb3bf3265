import java.util.function.IntSupplier;

/** What the tests share: counting answers that are not the due ones. */
final class Check {
    private static int wrong = 0;
    private static int asked = 0;

    private Check() {
    }

    interface Call {
        int on(Counted x);
    }

    static void due(String call, long got, long want) {
        asked++;
        if (got != want) {
            wrong++;
            System.out.println(call + " answered " + got + ", due is " + want);
        }
    }

    /** Of two long texts, the first line that differs is told. */
    static void due(String call, String got, String want) {
        asked++;
        if (got.equals(want)) {
            return;
        }
        wrong++;
        String[] gotLines = got.split("\n");
        String[] wantLines = want.split("\n");
        int line = 0;
        while (line < gotLines.length - 1 && line < wantLines.length - 1 && gotLines[line].equals(wantLines[line])) {
            line++;
        }
        System.out.println(call + " answered " + gotLines[line] + ", due is " + wantLines[line]);
    }

    static void outOfIndex(Counted x, String call, Call made) {
        refused(x, call, made, IndexOutOfBoundsException.class);
    }

    static void badArgument(Counted x, String call, Call made) {
        refused(x, call, made, IllegalArgumentException.class);
    }

    static void badState(Counted x, String call, Call made) {
        refused(x, call, made, IllegalStateException.class);
    }

    /** The call must throw exactly this, and all must be answered from then on as if it had not been made. */
    static void refused(Counted x, String call, Call made, Class<?> kind) {
        String before = Views.of(x);
        due(call + " throws", thrownBy(() -> made.on(x)), kind.getName());
        due(call + " changes nothing", Views.of(x), before);
    }

    static String thrownBy(IntSupplier call) {
        try {
            call.getAsInt();
        } catch (RuntimeException e) {
            return isThrownByClass(e) ? e.getClass().getName() : "by the machine or the library";
        }
        return "nothing";
    }

    /** The class must throw by itself, and not let the machine or the library do it. */
    static boolean isThrownByClass(RuntimeException e) {
        StackTraceElement[] calls = e.getStackTrace();
        return calls.length > 0 && calls[0].getClassName().startsWith("SusuRing");
    }

    /** Tells how it went, and ends the program with 1 if an answer was wrong. */
    static void end(String test) {
        System.out.println(test + ": " + asked + " checks, " + wrong + " wrong");
        if (wrong > 0 || asked == 0) {
            System.exit(1);
        }
    }
}
