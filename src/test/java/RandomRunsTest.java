import java.util.function.IntSupplier;

/** Random runs, the same ones each time, of which each answer is compared with that of the model. */
public final class RandomRunsTest {
    private static final int RUNS = 3000;
    /** What is left of 512 calls when a part of the state is asked at the end: 16 people, each with 7 answers. */
    private static final int CALLS_WITHOUT_STATE = Counted.MOST_CALLS - 16 * 7;
    private static final String[] NAMES = {"person", "earn", "die", "circle", "enter", "start", "want", "meet",
        "leave", "buy", "borrow", "repay", "month", "feast", "note", "audit", "of", "member", "ofCircle", "cash",
        "coins"};
    /** How often each method is called, in the order of the face: half of the runs are about circles. */
    private static final int[] FOR_CIRCLES = {6, 16, 1, 2, 8, 3, 8, 20, 3, 10, 14, 6, 10, 1, 5, 3, 8, 8, 6, 2, 2};
    private static final int[] FOR_FUND = {40, 200, 3, 1, 8, 3, 4, 8, 1, 180, 300, 50, 80, 1, 20, 10, 80, 8, 6, 20, 4};

    private static long seed;
    private static int people;
    private static int circles;
    private static final long[] answers = new long[NAMES.length];
    private static long defaults = 0;
    private static long roundsSeen = 0;

    private RandomRunsTest() {
    }

    public static void main(String[] args) {
        for (int run = 0; run < RUNS; run++) {
            seed = 7919L * run + 17;
            oneRun(run);
        }
        for (int method = 0; method < NAMES.length; method++) {
            Check.due(NAMES[method] + " was answered often", answers[method] > RUNS / 3 ? 1 : 0, 1);
        }
        Check.due("defaults happened often", defaults > RUNS / 3 ? 1 : 0, 1);
        Check.due("rounds ended often", roundsSeen > RUNS / 3 ? 1 : 0, 1);
        wildRuns();
        Check.end("RandomRunsTest");
    }

    private static int below(int bound) {
        seed = seed * 6364136223846793005L + 1442695040888963407L;
        return (int) ((seed >>> 33) % bound);
    }

    private static void oneRun(int run) {
        Counted x = new Counted();
        Model model = new Model();
        people = 0;
        circles = 0;
        int houses = 1 + below(12);
        int[] made = new int[5];
        boolean withState = run % 4 < 3;
        int calls = withState ? CALLS_WITHOUT_STATE : Counted.MOST_CALLS;
        for (int call = 0; call < calls; call++) {
            int method = call < 24 ? opening(call) : choose(run % 2 == 0 ? FOR_CIRCLES : FOR_FUND);
            arguments(method, houses, made);
            long due = model.call(method, made[0], made[1], made[2], made[3]);
            long got = answer(x, method, made[0], made[1], made[2], made[3]);
            count(method, due);
            if (due != got) {
                Check.due("run " + run + " call " + call + ": " + NAMES[method] + "(" + made[0] + ", " + made[1]
                    + ", " + made[2] + ", " + made[3] + ")", got, due);
                return;
            }
        }
        roundsSeen += model.rounds();
        if (withState) {
            comparePart(run, run / 4 % 5, x, model);
        }
    }

    /** Each run begins with some people and circles, so that there is something to happen. */
    private static int opening(int call) {
        return call < 8 ? 0 : call < 10 ? 3 : call < 20 ? 4 : 1;
    }

    private static int choose(int[] oftens) {
        int all = 0;
        for (int often : oftens) {
            all += often;
        }
        int left = below(all);
        for (int method = 0; method < oftens.length; method++) {
            left -= oftens[method];
            if (left < 0) {
                return method;
            }
        }
        return 0;
    }

    private static int someone() {
        return below(60) == 0 ? below(20) - 2 : below(Math.max(1, people));
    }

    private static int somewhere() {
        return below(60) == 0 ? below(8) - 2 : below(Math.max(1, circles));
    }

    private static int between(int low, int high) {
        int kind = below(60);
        if (kind == 0) {
            return low - 1;
        }
        if (kind == 1) {
            return high + 1;
        }
        return kind == 2 ? low : kind == 3 ? high : low + below(high - low + 1);
    }

    private static void arguments(int method, int houses, int[] made) {
        made[0] = someone();
        made[1] = someone();
        made[2] = someone();
        made[3] = someone();
        switch (method) {
            case 0:
                made[0] = between(1, 120);
                made[1] = below(20) == 0 ? between(0, 99999) : below(houses) * 11011 + below(2) + 10 * below(2);
                break;
            case 1:
                made[1] = below(6) == 0 ? between(-10000, 10000) : below(4) == 0 ? -below(300) : below(900);
                break;
            case 3:
                made[0] = below(3) == 0 ? between(1, 1000) : 1 + below(120);
                made[1] = between(0, 3);
                break;
            case 4: case 8:
                made[0] = somewhere();
                break;
            case 5:
                made[0] = somewhere();
                made[1] = between(0, 9999);
                break;
            case 6:
                made[0] = somewhere();
                made[2] = below(3) == 0 ? between(0, 10000) : below(200);
                made[3] = below(2);
                break;
            case 7:
                made[0] = somewhere();
                made[1] = below(2);
                break;
            case 9:
                made[1] = below(4) == 0 ? between(1, 100) : 1 + below(12);
                break;
            case 10:
                made[1] = below(4) == 0 ? between(1, 1000) : 1 + below(below(3) == 0 ? 200 : 50);
                break;
            case 11:
                made[1] = below(3) == 0 ? 10000 - below(2) : between(1, 60);
                break;
            case 12:
                made[0] = below(3) == 0 ? 1 : 0;
                break;
            case 14:
                made[0] = between(0, 2);
                made[2] = between(-10000, 10000);
                break;
            case 15:
                made[0] = between(0, 2);
                break;
            case 16:
                made[1] = between(0, 6);
                break;
            case 17:
                made[0] = somewhere();
                made[2] = between(0, 3);
                break;
            case 18:
                made[0] = somewhere();
                made[1] = between(0, 4);
                break;
            default:
                break;
        }
    }

    private static void count(int method, long due) {
        if (due < Model.INDEX) {
            answers[method]++;
            people += method == 0 ? 1 : 0;
            circles += method == 3 ? 1 : 0;
            defaults += method == 12 ? due : 0;
        }
    }

    private static long answer(Counted x, int method, int a, int b, int c, int d) {
        return answer(() -> x.act(y -> asked(y, method, a, b, c, d)));
    }

    private static long answer(IntSupplier call) {
        try {
            return call.getAsInt();
        } catch (RuntimeException e) {
            if (!Check.isThrownByClass(e)) {
                return Long.MIN_VALUE;
            }
            if (e.getClass() == IndexOutOfBoundsException.class) {
                return Model.INDEX;
            }
            if (e.getClass() == IllegalArgumentException.class) {
                return Model.ARGUMENT;
            }
            return e.getClass() == IllegalStateException.class ? Model.STATE : Long.MIN_VALUE;
        }
    }

    private static int asked(SusuRing x, int method, int a, int b, int c, int d) {
        switch (method) {
            case 0: return x.person(a, b);
            case 1: return x.earn(a, b);
            case 2: return x.die(a, b);
            case 3: return x.circle(a, b);
            case 4: return x.enter(a, b);
            case 5: return x.start(a, b);
            case 6: return x.want(a, b, c, d != 0);
            case 7: return x.meet(a, b != 0);
            case 8: return x.leave(a, b);
            case 9: return x.buy(a, b);
            case 10: return x.borrow(a, b, c, d);
            case 11: return x.repay(a, b);
            case 12: return x.month(a != 0);
            case 13: return x.feast();
            case 14: return x.note(a, b, c);
            case 15: return x.audit(a);
            case 16: return x.of(a, b);
            case 17: return x.member(a, b, c);
            case 18: return x.ofCircle(a, b);
            case 19: return x.cash();
            default: return x.coins();
        }
    }

    /** Parts 0 to 3 are the circles, part 4 is the people. */
    private static void comparePart(int run, int part, Counted x, Model model) {
        String at = "run " + run + ", at its end: ";
        for (int p = 0; p < 16; p++) {
            for (int what = 0; what <= (part < 4 ? 3 : 6); what++) {
                if (part < 4) {
                    compare(at, 17, part, p, what, x, model);
                } else {
                    compare(at, 16, p, what, 0, x, model);
                }
            }
        }
        for (int what = 0; what <= 4 && part < 4; what++) {
            compare(at, 18, part, what, 0, x, model);
        }
    }

    private static void compare(String at, int method, int a, int b, int c, Counted x, Model model) {
        Check.due(at + NAMES[method] + "(" + a + ", " + b + ", " + c + ")", answer(x, method, a, b, c, 0),
            model.call(method, a, b, c, 0));
    }

    /**
     * Arguments of any size, behind the 512th call too: what is answered there is free, but only the exceptions
     * of the document may come out (LANGUAGE.md, 6 and 7).
     */
    private static void wildRuns() {
        int[] wild = {Integer.MIN_VALUE, Integer.MAX_VALUE, -1, 0, 1, 2, 3, 15, 16, 100, 10000};
        for (int run = 0; run < 200; run++) {
            SusuRing x = new SusuRing();
            for (int call = 0; call < 4000; call++) {
                int method = below(NAMES.length);
                int a = wild[below(wild.length)];
                int b = wild[below(wild.length)];
                int c = wild[below(wild.length)];
                int d = wild[below(wild.length)];
                long got = answer(() -> asked(x, method, a, b, c, d));
                if (got == Long.MIN_VALUE) {
                    Check.due("wild run " + run + ", " + NAMES[method], 1, 0);
                }
            }
        }
    }
}
