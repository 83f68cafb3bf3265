/** "A call that throws an exception changes nothing": each kind of refused call, in a village where much goes on. */
public final class RefusedCallsTest {
    private static final int DEAD = 15;
    private static final int RICH = 14;
    private static final int POOR = 13;

    private RefusedCallsTest() {
    }

    public static void main(String[] args) {
        Edge.sentence("A call that throws an exception changes nothing: people", RefusedCallsTest::people);
        Edge.sentence("A call that throws an exception changes nothing: circles", RefusedCallsTest::circles);
        Edge.sentence("A call that throws an exception changes nothing: members", RefusedCallsTest::members);
        Edge.sentence("A call that throws an exception changes nothing: shares", RefusedCallsTest::shares);
        Edge.sentence("A call that throws an exception changes nothing: loans", RefusedCallsTest::loans);
        Edge.sentence("A call that throws an exception changes nothing: books", RefusedCallsTest::books);
        Edge.sentence("A call that throws an exception changes nothing: questions", RefusedCallsTest::questions);
        Check.end("RefusedCallsTest");
    }

    /** Sixteen people, the last one dead, with four circles, loans of several ages, and notes. */
    private static Counted busy() {
        Counted x = Village.people(16, 0);
        for (int p = 0; p < 13; p++) {
            x.earn(p, 300 + p);
            x.buy(p, 5 + p);
        }
        x.earn(RICH, 2000);
        x.buy(RICH, 100);
        fillCircles(x);
        Village.payBackLoans(x, 2, 0, 1, 2);
        x.borrow(0, 101, 1, 2);
        Village.months(x, 4);
        x.borrow(3, 33, 4, 5);
        x.month(false);
        x.die(DEAD, 12);
        for (int book = 0; book <= 2; book++) {
            for (int p = 0; p < 16; p++) {
                x.note(book, p, 17 * book + p);
            }
        }
        return x;
    }

    /** 0: by lot, in its second round. 1: not started. 2: by need, with arrears of POOR. 3: by bid, full. */
    private static void fillCircles(Counted x) {
        for (int way = SusuRing.LOT; way <= SusuRing.BID; way++) {
            x.circle(15, way);
            Village.enterAll(x, way, way == SusuRing.BID ? 10 : 3);
        }
        x.enter(1, DEAD);
        x.enter(2, POOR);
        x.start(0, 77);
        x.start(2, 0);
        for (int meeting = 0; meeting < 4; meeting++) {
            x.meet(0, false);
        }
        x.meet(2, false);
        x.meet(2, true);
        for (int way = SusuRing.LOT; way <= SusuRing.BID; way++) {
            for (int p = 0; p < 3; p++) {
                x.want(way, p, 10 + p, true);
                x.want(way, p, 20 - p, false);
            }
        }
        x.want(2, POOR, 3, true);
        x.want(2, POOR, 4, false);
    }

    private static void index(String call, Check.Call refused) {
        Edge.index(call, RefusedCallsTest::busy, refused);
    }

    private static void argument(String call, Check.Call refused) {
        Edge.argument(call, RefusedCallsTest::busy, refused);
    }

    private static void state(String call, Check.Call refused) {
        Edge.state(call, RefusedCallsTest::busy, refused);
    }

    private static void people() {
        argument("person: age", x -> x.person(121, 5));
        argument("person: name", x -> x.person(5, 100000));
        state("person: a 17th", x -> x.person(5, 5));
        index("earn: nobody", x -> x.earn(16, 5));
        argument("earn: amount", x -> x.earn(0, 10001));
        state("earn: the dead", x -> x.earn(DEAD, 5));
        state("earn: spends too much", x -> x.earn(0, -10000));
        index("die: nobody", x -> x.die(16, 0));
        index("die: no heir", x -> x.die(0, 16));
        argument("die: the same", x -> x.die(0, 0));
        state("die: again", x -> x.die(DEAD, 0));
        state("die: a dead heir", x -> x.die(0, DEAD));
        state("die: too many shares", x -> x.die(0, RICH));
        state("die: too many shares, the other way", x -> x.die(RICH, 0));
    }

    private static void circles() {
        argument("circle: sum", x -> x.circle(1001, 0));
        argument("circle: way", x -> x.circle(5, 4));
        state("circle: a fifth", x -> x.circle(5, 0));
        index("enter: no circle", x -> x.enter(4, 5));
        index("enter: nobody", x -> x.enter(1, 16));
        state("enter: started", x -> x.enter(0, 5));
        state("enter: full", x -> x.enter(3, 11));
        state("enter: a member", x -> x.enter(1, 2));
        state("enter: the dead", x -> x.enter(1, DEAD));
        index("start: no circle", x -> x.start(4, 5));
        argument("start: seed", x -> x.start(1, 10000));
        state("start: by lot again", x -> x.start(0, 5));
        state("start: by need again", x -> x.start(2, 5));
    }

    private static void members() {
        boolean[] kinds = {true, false};
        for (boolean isBid : kinds) {
            index("want: no circle", x -> x.want(4, 0, 5, isBid));
            index("want: nobody", x -> x.want(0, 16, 5, isBid));
            argument("want: amount", x -> x.want(0, 0, 10001, isBid));
            argument("want: amount below 0", x -> x.want(3, 1, -1, isBid));
            state("want: no member", x -> x.want(0, 5, 5, isBid));
            state("want: the dead", x -> x.want(1, DEAD, 5, isBid));
            index("meet: no circle", x -> x.meet(4, isBid));
            state("meet: not started", x -> x.meet(1, isBid));
            state("meet: full, but not started", x -> x.meet(3, isBid));
        }
        index("leave: no circle", x -> x.leave(4, 0));
        index("leave: nobody", x -> x.leave(0, 16));
        state("leave: no member", x -> x.leave(0, 5));
        state("leave: the dead", x -> x.leave(1, DEAD));
        state("leave: had a turn", x -> x.leave(2, 0));
        state("leave: with arrears", x -> x.leave(2, POOR));
        Counted x = busy();
        int turns = 0;
        for (int p = 0; p < 3; p++) {
            turns += x.member(0, p, 1);
        }
        Edge.due("one had a turn in the second round", turns, 1);
        Edge.due("POOR had none", x.member(2, POOR, 1), 0);
    }

    private static void shares() {
        index("buy: nobody", x -> x.buy(16, 5));
        argument("buy: shares", x -> x.buy(0, 101));
        state("buy: the dead", x -> x.buy(DEAD, 1));
        state("buy: too many", x -> x.buy(RICH, 1));
        state("buy: an empty purse", x -> x.buy(POOR, 1));
        state("feast: there are loans", Counted::feast);
    }

    private static void loans() {
        index("borrow: nobody", x -> x.borrow(16, 5, 1, 2));
        index("borrow: no first", x -> x.borrow(6, 5, 16, 2));
        index("borrow: no second", x -> x.borrow(6, 5, 1, 16));
        argument("borrow: vouches for oneself", x -> x.borrow(6, 5, 6, 2));
        argument("borrow: vouches twice", x -> x.borrow(6, 5, 2, 2));
        argument("borrow: amount", x -> x.borrow(6, 1001, 1, 2));
        state("borrow: the dead", x -> x.borrow(DEAD, 5, 1, 2));
        state("borrow: the first is dead", x -> x.borrow(6, 5, DEAD, 2));
        state("borrow: the second is dead", x -> x.borrow(6, 5, 1, DEAD));
        state("borrow: no share", x -> x.borrow(POOR, 5, 1, 2));
        state("borrow: the first has no share", x -> x.borrow(6, 5, POOR, 2));
        state("borrow: the second has no share", x -> x.borrow(6, 5, 1, POOR));
        state("borrow: a second loan", x -> x.borrow(0, 5, 7, 8));
        state("borrow: a second loan of another", x -> x.borrow(3, 5, 8, 7));
        state("borrow: above the step", x -> x.borrow(6, 51, 1, 2));
        state("borrow: above what is allowed", x -> x.borrow(6, 1000, 1, 2));
        index("repay: nobody", x -> x.repay(16, 5));
        argument("repay: amount", x -> x.repay(0, 10001));
        state("repay: no loan", x -> x.repay(6, 5));
        state("repay: the dead", x -> x.repay(DEAD, 5));
        Edge.state("repay: too little in the purse", () -> Edge.with(busy(), x -> x.earn(0, -x.of(0, 0))),
            x -> x.repay(0, 1));
    }

    private static void books() {
        index("note: no book", x -> x.note(3, 0, 5));
        index("note: nobody", x -> x.note(0, 16, 5));
        for (int b = 0; b <= 2; b++) {
            int book = b;
            argument("note: amount", x -> x.note(book, 0, 10001));
            argument("note: amount below", x -> x.note(book, DEAD, -10001));
        }
        index("audit: no book", x -> x.audit(3));
    }

    private static void questions() {
        index("of: nobody", x -> x.of(16, 0));
        argument("of: what", x -> x.of(0, 7));
        index("member: no circle", x -> x.member(4, 0, 0));
        index("member: nobody", x -> x.member(0, 16, 0));
        argument("member: what", x -> x.member(0, 0, 4));
        index("ofCircle: no circle", x -> x.ofCircle(4, 0));
        argument("ofCircle: what", x -> x.ofCircle(0, 5));
    }
}
