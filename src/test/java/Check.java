import java.util.function.IntSupplier;

/** What the tests share: counting answers that are not the due ones. */
final class Check {
    private static int wrong = 0;
    private static int asked = 0;

    private Check() {
    }

    static void due(String call, long got, long want) {
        asked++;
        if (got != want) {
            wrong++;
            System.out.println(call + " answered " + got + ", due is " + want);
        }
    }

    static void due(String call, String got, String want) {
        asked++;
        if (!got.equals(want)) {
            wrong++;
            System.out.println(call + " answered " + got + ", due is " + want);
        }
    }

    static void outOfIndex(SusuRing x, String call, IntSupplier made) {
        refused(x, call, made, IndexOutOfBoundsException.class);
    }

    static void badArgument(SusuRing x, String call, IntSupplier made) {
        refused(x, call, made, IllegalArgumentException.class);
    }

    static void badState(SusuRing x, String call, IntSupplier made) {
        refused(x, call, made, IllegalStateException.class);
    }

    /** The call must throw exactly this, and must leave all that can be asked as it was. */
    private static void refused(SusuRing x, String call, IntSupplier made, Class<?> kind) {
        String before = state(x);
        String thrown = "nothing";
        try {
            made.getAsInt();
        } catch (RuntimeException e) {
            thrown = isThrownByClass(e) ? e.getClass().getName() : "by the machine or the library";
        }
        due(call + " throws", thrown, kind.getName());
        due(call + " leaves the state", state(x), before);
    }

    /** The class must throw by itself, and not let the machine or the library do it. */
    static boolean isThrownByClass(RuntimeException e) {
        StackTraceElement[] calls = e.getStackTrace();
        return calls.length > 0 && calls[0].getClassName().startsWith("SusuRing");
    }

    /** All that can be asked of the object, as one text. */
    static String state(SusuRing x) {
        StringBuilder all = new StringBuilder();
        int people = people(x);
        int circles = circles(x);
        for (int p = 0; p < people; p++) {
            all.append("\nperson ").append(p).append(':');
            for (int what = 0; what <= 6; what++) {
                all.append(' ').append(x.of(p, what));
            }
        }
        for (int c = 0; c < circles; c++) {
            all.append("\ncircle ").append(c).append(':');
            for (int what = 0; what <= 4; what++) {
                all.append(' ').append(x.ofCircle(c, what));
            }
            for (int p = 0; p < people; p++) {
                for (int what = 0; what <= 3; what++) {
                    all.append(' ').append(x.member(c, p, what));
                }
            }
        }
        all.append("\ncash ").append(x.cash()).append(" coins ").append(x.coins()).append(" audits");
        for (int book = 0; book <= 2; book++) {
            all.append(' ').append(x.audit(book));
        }
        return all.toString();
    }

    static int people(SusuRing x) {
        return count(16, p -> x.of(p, 0));
    }

    static int circles(SusuRing x) {
        return count(4, c -> x.ofCircle(c, 0));
    }

    private interface Question {
        int ask(int number);
    }

    private static int count(int most, Question question) {
        for (int number = 0; number < most; number++) {
            try {
                question.ask(number);
            } catch (IndexOutOfBoundsException none) {
                return number;
            }
        }
        return most;
    }

    /** Tells how it went, and ends the program with 1 if an answer was wrong. */
    static void end(String test) {
        System.out.println(test + ": " + asked + " checks, " + wrong + " wrong");
        if (wrong > 0 || asked == 0) {
            System.exit(1);
        }
    }
}
