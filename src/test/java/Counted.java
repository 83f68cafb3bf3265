import java.util.ArrayList;
import java.util.List;

/**
 * An object as the document lets it be used: "for at most 512 calls after it has been made". A test that asked
 * more of it would hold the class to answers that are free, and ends with an error here.
 */
final class Counted {
    static final int MOST_CALLS = 512;

    interface Call {
        int on(SusuRing x);
    }

    private final SusuRing ring = new SusuRing();
    /** All that may have changed the object: a question stands here only if it threw. */
    private final List<Call> history = new ArrayList<>();
    private int calls = 0;
    private int people = 0;
    private int circles = 0;

    /** Another object to which the same has happened, and of which nothing was asked yet. */
    Counted again() {
        Counted other = new Counted();
        for (Call call : history) {
            other.repeat(call);
        }
        other.people = people;
        other.circles = circles;
        return other;
    }

    private void repeat(Call call) {
        try {
            act(call);
        } catch (RuntimeException e) {
            // it threw at the first object, too
        }
    }

    /** A question by this stays in the history, for tests of what questions change. */
    int act(Call call) {
        history.add(call);
        return count(call);
    }

    private int ask(Call call) {
        try {
            return count(call);
        } catch (RuntimeException e) {
            history.add(call);
            throw e;
        }
    }

    private int count(Call call) {
        calls++;
        if (calls > MOST_CALLS) {
            throw new AssertionError("a test uses one object for more than " + MOST_CALLS + " calls");
        }
        return call.on(ring);
    }

    int people() {
        return people;
    }

    int circles() {
        return circles;
    }

    int person(int age, int name) {
        int number = act(x -> x.person(age, name));
        people++;
        return number;
    }

    int earn(int person, int amount) {
        return act(x -> x.earn(person, amount));
    }

    int die(int person, int heir) {
        return act(x -> x.die(person, heir));
    }

    int circle(int sum, int way) {
        int number = act(x -> x.circle(sum, way));
        circles++;
        return number;
    }

    int enter(int circle, int person) {
        return act(x -> x.enter(circle, person));
    }

    int start(int circle, int seed) {
        return act(x -> x.start(circle, seed));
    }

    int want(int circle, int person, int amount, boolean isBid) {
        return act(x -> x.want(circle, person, amount, isBid));
    }

    int meet(int circle, boolean moved) {
        return act(x -> x.meet(circle, moved));
    }

    int leave(int circle, int person) {
        return act(x -> x.leave(circle, person));
    }

    int buy(int person, int shares) {
        return act(x -> x.buy(person, shares));
    }

    int borrow(int person, int amount, int first, int second) {
        return act(x -> x.borrow(person, amount, first, second));
    }

    int repay(int person, int amount) {
        return act(x -> x.repay(person, amount));
    }

    int month(boolean drought) {
        return act(x -> x.month(drought));
    }

    int feast() {
        return act(SusuRing::feast);
    }

    int note(int book, int person, int amount) {
        return act(x -> x.note(book, person, amount));
    }

    int audit(int book) {
        return ask(x -> x.audit(book));
    }

    int of(int person, int what) {
        return ask(x -> x.of(person, what));
    }

    int member(int circle, int person, int what) {
        return ask(x -> x.member(circle, person, what));
    }

    int ofCircle(int circle, int what) {
        return ask(x -> x.ofCircle(circle, what));
    }

    int cash() {
        return ask(SusuRing::cash);
    }

    int coins() {
        return ask(SusuRing::coins);
    }
}
