/** Boundaries that "Deaths" and promise 4 name. */
public final class DeathEdgesTest {
    private DeathEdgesTest() {
    }

    public static void main(String[] args) {
        Edge.sentence("die: there is no such person, of either", DeathEdgesTest::nobody);
        Edge.sentence("die: both are the same", DeathEdgesTest::oneselfAsHeir);
        Edge.sentence("die: one of both is dead", DeathEdgesTest::alreadyDead);
        Edge.sentence("die: the heir would have more than 100 shares", DeathEdgesTest::hundredShares);
        Edge.sentence("die throws, in the clause's order", DeathEdgesTest::dieInOrder);
        Edge.sentence("the heir gets the purse", DeathEdgesTest::purses);
        Edge.sentence("the heir gets the loan, if the heir has none", DeathEdgesTest::loanToNone);
        Edge.sentence("otherwise the debt is added to that of the heir", DeathEdgesTest::loanToLoan);
        Edge.sentence("whose age and vouchers count", DeathEdgesTest::ageAndVouchersOfHeir);
        Edge.sentence("the age and vouchers of the dead's loan go with it", DeathEdgesTest::ageAndVouchersOfDead);
        Edge.sentence("has the place of the dead with all that goes with it", DeathEdgesTest::place);
        Edge.sentence("the place of the dead in the order of turns", DeathEdgesTest::placeInOrder);
        Edge.sentence("if the heir is a member already, the arrears are added", DeathEdgesTest::memberAlready);
        Edge.sentence("and the place is gone", DeathEdgesTest::placeGone);
        Edge.sentence("Returns in how many circles the heir got a place", DeathEdgesTest::howManyPlaces);
        Edge.sentence("by a death, and all of these had a turn", DeathEdgesTest::newRound);
        Edge.sentence("What the dead paid back stays with the dead", DeathEdgesTest::paidBackStays);
        Edge.sentence("who vouched for others stays with the dead", DeathEdgesTest::vouchingStays);
        Edge.sentence("what is true does not go to heirs", DeathEdgesTest::truthStays);
        Check.end("DeathEdgesTest");
    }

    private static void nobody() {
        Edge.indexOutside("die(person, 0) of two", () -> Village.people(2, 5), 1, (x, p) -> x.die(p, 0));
        Edge.indexOutside("die(1, heir) of two", () -> Village.people(2, 5), 1, (x, p) -> x.die(1, p));
        Edge.indexOutside("die(person, 8) of 16", () -> Village.people(16, 5), 15, (x, p) -> x.die(p, 8));
        Edge.indexOutside("die(8, heir) of 16", () -> Village.people(16, 5), 15, (x, p) -> x.die(8, p));
        Edge.due("die(0, 15)", Village.people(16, 5).die(0, 15), 0);
        Edge.due("die(15, 0)", Village.people(16, 5).die(15, 0), 0);
    }

    private static void oneselfAsHeir() {
        Edge.argument("die(0, 0)", () -> Village.people(1, 5), x -> x.die(0, 0));
        Edge.argument("die(15, 15)", () -> Village.people(16, 5), x -> x.die(15, 15));
    }

    private static void alreadyDead() {
        Edge.state("the person", () -> Edge.with(Village.people(3, 5), x -> x.die(0, 1)), x -> x.die(0, 2));
        Edge.state("the heir", () -> Edge.with(Village.people(3, 5), x -> x.die(0, 1)), x -> x.die(2, 0));
        Edge.state("both", () -> Edge.with(Village.people(3, 5), x -> {
            x.die(0, 2);
            x.die(1, 2);
        }), x -> x.die(0, 1));
        Counted x = Village.people(3, 5);
        Edge.due("die(0, 1)", x.die(0, 1), 0);
        Edge.due("the heir may die, too", x.die(1, 2), 0);
        Edge.due("all came to the last", x.of(2, 0), 15);
    }

    private static Counted withShares(int one, int other) {
        Counted x = Village.people(2, 1000);
        if (one > 0) {
            x.buy(0, one);
        }
        if (other > 0) {
            x.buy(1, other);
        }
        return x;
    }

    private static int inherited(int one, int other) {
        Counted x = withShares(one, other);
        x.die(0, 1);
        Edge.due("the dead has none", x.of(0, 1), 0);
        return x.of(1, 1);
    }

    private static void hundredShares() {
        Edge.due("none and none", inherited(0, 0), 0);
        Edge.due("100 and none", inherited(100, 0), 100);
        Edge.due("none and 100", inherited(0, 100), 100);
        Edge.due("1 and 99", inherited(1, 99), 100);
        Edge.due("99 and 1", inherited(99, 1), 100);
        Edge.state("1 and 100", () -> withShares(1, 100), x -> x.die(0, 1));
        Edge.state("100 and 1", () -> withShares(100, 1), x -> x.die(0, 1));
        Edge.state("51 and 50", () -> withShares(51, 50), x -> x.die(0, 1));
        Edge.state("100 and 100", () -> withShares(100, 100), x -> x.die(0, 1));
    }

    private static void dieInOrder() {
        Edge.index("both the same, and nobody", () -> Village.people(2, 5), x -> x.die(2, 2));
        Edge.index("both -1", () -> Village.people(2, 5), x -> x.die(-1, -1));
        Edge.index("the dead, and nobody", () -> Edge.with(Village.people(2, 5), x -> x.die(0, 1)), x -> x.die(0, 2));
        Edge.index("nobody, and the dead", () -> Edge.with(Village.people(2, 5), x -> x.die(0, 1)), x -> x.die(2, 0));
        Edge.argument("both the same, and dead", () -> Edge.with(Village.people(2, 5), x -> x.die(0, 1)),
            x -> x.die(0, 0));
        Edge.argument("both the same, with 100 shares", () -> withShares(100, 0), x -> x.die(0, 0));
    }

    private static void purses() {
        Counted x = Village.people(3, 0);
        x.earn(0, 7);
        x.die(0, 1);
        Edge.due("the heir's", x.of(1, 0), 7);
        Edge.due("the dead's", x.of(0, 0), 0);
        Edge.due("another's", x.of(2, 0), 0);
        x.die(2, 1);
        Edge.due("of an empty purse nothing", x.of(1, 0), 7);
        Edge.due("coins()", x.coins(), 0);
    }

    private static void loanToNone() {
        Counted x = Village.holders(4, 10, 0);
        x.person(30, Village.nameOf(4));
        x.borrow(0, 50, 1, 2);
        x.die(0, 4);
        Edge.due("the heir owes", x.of(4, 2), 50);
        Edge.due("the dead owes nothing", x.of(0, 2), 0);
        Edge.due("the coins came, too", x.of(4, 0), 50);
        Edge.due("cash()", x.cash(), 350);
        Edge.state("the heir borrows", () -> heirOfLoan(50), y -> y.borrow(3, 1, 1, 2));
        Edge.due("the heir pays back", heirOfLoan(50).repay(3, 50), 0);
        Edge.state("the heir of no loan has none", () -> heirOfLoan(0), y -> y.repay(3, 1));
        Edge.due("the heir of no loan borrows", heirOfLoan(0).borrow(3, 1, 1, 2), 1);
    }

    private static Counted heirOfLoan(int amount) {
        Counted x = Village.holders(4, 10, 0);
        if (amount > 0) {
            x.borrow(0, amount, 1, 2);
        }
        x.die(0, 3);
        return x;
    }

    private static void loanToLoan() {
        Counted x = Village.holders(4, 10, 0);
        x.borrow(0, 50, 1, 2);
        x.borrow(3, 49, 1, 2);
        x.die(0, 3);
        Edge.due("both debts", x.of(3, 2), 99);
        Edge.due("the dead owes nothing", x.of(0, 2), 0);
        Edge.due("one coin is left", x.repay(3, 98), 1);
        Edge.due("one loan is paid back", x.of(3, 3), 0);
        x.repay(3, 1);
        Edge.due("one loan is paid back", x.of(3, 3), 1);
        Counted y = Village.holders(4, 10, 0);
        y.borrow(3, 49, 1, 2);
        y.die(0, 3);
        Edge.due("no debt is added", y.of(3, 2), 49);
        debtsAboveTheHouseLimit();
    }

    /** The 500 of a house bind who borrows, not who inherits. */
    private static void debtsAboveTheHouseLimit() {
        Counted x = Village.holders(4, 50, 0);
        Village.payBackLoans(x, 9, 0, 1, 2);
        Village.payBackLoans(x, 9, 3, 1, 2);
        x.borrow(0, 500, 1, 2);
        x.borrow(3, 500, 1, 2);
        Edge.due("die(0, 3)", x.die(0, 3), 0);
        Edge.due("1000 in one house", x.of(3, 2), 1000);
        Edge.due("repay(3, 10000)", x.repay(3, 10000), 0);
    }

    /** 0 owes 20, vouched for by 1 and 2; 3 owes 40, vouched for by 4 and 5; each for so many months. */
    private static Counted twoLoans(int monthsOfDead, int monthsOfHeir) {
        Counted x = Village.holders(6, 10, 200);
        if (monthsOfDead > monthsOfHeir) {
            x.borrow(0, 20, 1, 2);
            Village.months(x, monthsOfDead - monthsOfHeir);
            x.borrow(3, 40, 4, 5);
            Village.months(x, monthsOfHeir);
        } else {
            x.borrow(3, 40, 4, 5);
            Village.months(x, monthsOfHeir - monthsOfDead);
            x.borrow(0, 20, 1, 2);
            Village.months(x, monthsOfDead);
        }
        return x;
    }

    private static void ageAndVouchersOfHeir() {
        Counted x = twoLoans(6, 5);
        x.die(0, 3);
        int debt = Village.debtAfter(20, 6) + Village.debtAfter(40, 5);
        Edge.due("both debts", x.of(3, 2), debt);
        Edge.due("the sixth month of the heir's loan", x.month(false), 0);
        debt = Village.debtAfter(debt, 1);
        Edge.due("the debts grow as one", x.of(3, 2), debt);
        Edge.due("the seventh month of the heir's loan", x.month(false), 1);
        debt = Village.debtAfter(debt, 1);
        Edge.due("the heir's first pays", x.of(4, 0), 200 - debt / 2);
        Edge.due("the heir's second pays", x.of(5, 0), 200 - (debt - debt / 2));
        Edge.due("the dead's first does not", x.of(1, 0), 200);
        Edge.due("the dead's second does not", x.of(2, 0), 200);
        Counted y = twoLoans(0, 6);
        y.die(0, 3);
        Edge.due("the heir's loan is the older one", y.month(false), 1);
        Edge.due("and took the dead's with it", y.of(3, 2), 0);
    }

    private static void ageAndVouchersOfDead() {
        Counted x = Village.holders(4, 10, 200);
        x.borrow(0, 50, 1, 2);
        Village.months(x, 5);
        x.die(0, 3);
        Edge.due("the sixth month", x.month(false), 0);
        Edge.due("the seventh month", x.month(false), 1);
        int debt = Village.debtAfter(50, 7);
        Edge.due("the first pays", x.of(1, 0), 200 - debt / 2);
        Edge.due("the second pays", x.of(2, 0), 200 - (debt - debt / 2));
        Edge.due("the heir pays nothing", x.of(3, 0), 450);
        Counted y = Village.holders(4, 10, 200);
        y.borrow(3, 50, 1, 2);
        Village.months(y, 6);
        y.repay(3, 10000);
        y.borrow(0, 50, 1, 2);
        y.die(0, 3);
        Village.months(y, 6);
        Edge.due("a loan that the heir paid back does not count", y.of(3, 2), Village.debtAfter(50, 6));
        Edge.due("the seventh month", y.month(false), 1);
        inheritedByVoucher();
    }

    private static void inheritedByVoucher() {
        Counted x = Village.holders(3, 10, 200);
        x.borrow(0, 50, 1, 2);
        x.die(0, 2);
        Village.months(x, 7);
        int debt = Village.debtAfter(50, 7);
        Edge.due("the first pays half", x.of(1, 0), 200 - debt / 2);
        Edge.due("the heir pays the rest of the own loan", x.of(2, 0), 450 - (debt - debt / 2));
        Edge.due("the loan is over", x.of(2, 2), 0);
    }

    /** 0 paid 9 of 10 and had the turn: so there are arrears of 2, and a need and a bid. */
    private static Counted placeOfDead(int members) {
        Counted x = Village.people(4, 0);
        x.circle(10, SusuRing.NEED);
        Village.enterAll(x, 0, members);
        x.earn(0, 9);
        x.start(0, 0);
        x.want(0, 0, 5, false);
        x.meet(0, false);
        x.want(0, 0, 6, true);
        return x;
    }

    private static void place() {
        Counted x = placeOfDead(3);
        Edge.due("the dead's arrears", x.member(0, 0, 0), 2);
        Edge.due("die(0, 3)", x.die(0, 3), 1);
        Edge.due("the arrears", x.member(0, 3, 0), 2);
        Edge.due("the turn", x.member(0, 3, 1), 1);
        Edge.due("what was paid in", x.member(0, 3, 2), 9);
        Edge.due("the place", x.member(0, 3, 3), 0);
        Edge.due("the need", x.want(0, 3, 0, false), 5);
        Edge.due("the bid", x.want(0, 3, 0, true), 6);
        Edge.due("the members", x.ofCircle(0, 1), 3);
        for (int what = 0; what <= 3; what++) {
            Edge.due("the dead has no place", x.member(0, 0, what), SusuRing.NONE);
        }
        Counted y = Edge.with(Village.circle(2, 0, 10, SusuRing.AGE), z -> z.person(30, Village.nameOf(2)));
        Edge.due("before the start", y.die(0, 2), 1);
        Edge.due("the place", y.member(0, 2, 3), 0);
        Edge.due("the heir is a member now", y.start(0, 0), 2);
        placeInFullCircle();
    }

    private static void placeInFullCircle() {
        Counted x = Village.people(11, 0);
        x.circle(10, SusuRing.NEED);
        Village.enterAll(x, 0, 10);
        Edge.due("die(9, 10)", x.die(9, 10), 1);
        Edge.due("10 members", x.ofCircle(0, 1), 10);
        Edge.due("the last place", x.member(0, 10, 3), 9);
    }

    private static void placeInOrder() {
        Counted x = new Counted();
        int[] ages = {120, 60, 30, 1};
        for (int p = 0; p < ages.length; p++) {
            x.person(ages[p], Village.nameOf(p));
        }
        x.circle(10, SusuRing.AGE);
        Village.enterAll(x, 0, 3);
        x.start(0, 0);
        Edge.due("die(0, 3)", x.die(0, 3), 1);
        Edge.due("the youngest has the place of the eldest", x.meet(0, false), 3);
        Edge.due("the second", x.meet(0, false), 1);
        Edge.due("the third", x.meet(0, false), 2);
        Edge.due("the first again", x.meet(0, false), 3);
        Counted y = Village.circle(3, 0, 10, SusuRing.LOT);
        y.start(0, 2);
        Edge.due("die(0, 1)", y.die(0, 1), 0);
        Edge.due("by lot 2 is first", y.meet(0, false), 2);
        Edge.due("the heir keeps the own place in the order", y.meet(0, false), 1);
    }

    private static void memberAlready() {
        Counted x = placeOfDead(3);
        Edge.due("the heir's arrears", x.member(0, 2, 0), 11);
        Edge.due("die(0, 2)", x.die(0, 2), 0);
        Edge.due("both arrears", x.member(0, 2, 0), 13);
        Edge.due("the heir had no turn", x.member(0, 2, 1), 0);
        Edge.due("what the heir paid in", x.member(0, 2, 2), 0);
        Edge.due("the heir's need", x.want(0, 2, 0, false), 0);
        Edge.due("the heir's bid", x.want(0, 2, 0, true), 0);
        Edge.due("another's arrears", x.member(0, 1, 0), 11);
        Counted y = Village.started(3, 100, 10, SusuRing.NEED);
        y.meet(0, false);
        y.die(0, 1);
        Edge.due("no arrears are added", y.member(0, 1, 0), 0);
        Edge.due("such a member may leave", y.leave(0, 1), 0);
        Edge.state("the arrears of the dead keep the heir from leaving", DeathEdgesTest::heirOfArrears,
            z -> z.leave(0, 2));
    }

    private static Counted heirOfArrears() {
        Counted x = Village.people(3, 100);
        x.circle(10, SusuRing.NEED);
        Village.enterAll(x, 0, 3);
        x.earn(1, -91);
        x.start(0, 0);
        x.meet(0, true);
        x.die(1, 2);
        return x;
    }

    private static void placeGone() {
        Counted x = Village.started(10, 100, 10, SusuRing.AGE);
        Edge.due("die(3, 9)", x.die(3, 9), 0);
        Edge.due("9 members", x.ofCircle(0, 1), 9);
        Edge.due("the one before", x.member(0, 2, 3), 2);
        Edge.due("the one behind moves up", x.member(0, 4, 3), 3);
        Edge.due("the heir moves up", x.member(0, 9, 3), 8);
        Edge.due("the heir of a later place stays", x.die(8, 0), 0);
        Edge.due("at the own place", x.member(0, 0, 3), 0);
        Counted y = Village.circle(10, 0, 10, SusuRing.AGE);
        y.person(30, Village.nameOf(10));
        Edge.due("before the start", y.die(0, 1), 0);
        Edge.due("there is a place again", y.enter(0, 10), 10);
        Counted z = Village.started(2, 100, 10, SusuRing.BID);
        Edge.due("one member is left", z.die(0, 1), 0);
        Edge.due("one member", z.ofCircle(0, 1), 1);
        Edge.due("who would have the turn", z.ofCircle(0, 4), 1);
    }

    private static Counted inCircles(int of0, int of1) {
        Counted x = Village.people(2, 0);
        for (int c = 0; c < 4; c++) {
            x.circle(10, c);
            if (c < of0) {
                x.enter(c, 0);
            }
            if (c < of1) {
                x.enter(c, 1);
            }
        }
        return x;
    }

    private static void howManyPlaces() {
        Edge.due("no circles", Village.people(2, 0).die(0, 1), 0);
        Edge.due("no place in 4 circles", inCircles(0, 0).die(0, 1), 0);
        Edge.due("no place, and the heir in 4", inCircles(0, 4).die(0, 1), 0);
        Edge.due("1 place", inCircles(1, 0).die(0, 1), 1);
        Edge.due("4 places", inCircles(4, 0).die(0, 1), 4);
        Edge.due("4 places, the heir in 3 of these", inCircles(4, 3).die(0, 1), 1);
        Edge.due("4 places, the heir in all", inCircles(4, 4).die(0, 1), 0);
    }

    private static void newRound() {
        Counted x = Village.started(3, 100, 10, SusuRing.AGE);
        x.meet(0, false);
        x.meet(0, false);
        Edge.due("die(2, 0)", x.die(2, 0), 0);
        Edge.due("rounds", x.ofCircle(0, 3), 1);
        Edge.due("meetings", x.ofCircle(0, 2), 2);
        Edge.due("no turn in this round", x.member(0, 0, 1) + x.member(0, 1, 1), 0);
        Edge.due("nothing paid in", x.member(0, 0, 2) + x.member(0, 1, 2), 0);
        Counted y = Village.started(3, 100, 10, SusuRing.AGE);
        y.meet(0, false);
        y.die(2, 0);
        Edge.due("one of those left had no turn", y.ofCircle(0, 3), 0);
        Edge.due("the turn stays", y.member(0, 0, 1), 1);
        Counted z = Village.started(2, 100, 10, SusuRing.NEED);
        z.meet(0, false);
        z.die(1, 0);
        Edge.due("the only one left had a turn", z.ofCircle(0, 3), 1);
        Counted w = Village.started(2, 100, 10, SusuRing.NEED);
        w.meet(0, false);
        w.die(0, 1);
        Edge.due("the only one left had no turn", w.ofCircle(0, 3), 0);
        newRoundInOneOfTwo();
    }

    private static void newRoundInOneOfTwo() {
        Counted x = Village.started(3, 100, 10, SusuRing.AGE);
        x.person(30, Village.nameOf(3));
        x.circle(10, SusuRing.AGE);
        x.enter(1, 2);
        x.enter(1, 1);
        x.start(1, 0);
        x.meet(0, false);
        x.meet(1, false);
        x.meet(0, false);
        Edge.due("a place in one circle", x.die(2, 0), 1);
        Edge.due("a round ends where the place is gone", x.ofCircle(0, 3), 1);
        Edge.due("none where the heir got it", x.ofCircle(1, 3), 0);
        Edge.due("the turn goes with it", x.member(1, 0, 1), 1);
    }

    private static void paidBackStays() {
        Counted x = Village.holders(4, 10, 0);
        Village.payBackLoans(x, 2, 0, 1, 2);
        Village.payBackLoans(x, 1, 3, 1, 2);
        x.die(0, 3);
        Edge.due("the dead's", x.of(0, 3), 2);
        Edge.due("the heir's", x.of(3, 3), 1);
        Edge.due("the heir's step", x.borrow(3, 100, 1, 2), 100);
        Edge.state("above the heir's step", () -> Edge.with(Village.holders(4, 10, 0), y -> {
            Village.payBackLoans(y, 2, 0, 1, 2);
            y.die(0, 3);
        }), y -> y.borrow(3, 51, 1, 2));
        Counted y = Village.holders(4, 10, 0);
        Village.payBackLoans(y, 1, 0, 1, 2);
        y.borrow(0, 1, 1, 2);
        y.die(0, 3);
        Village.months(y, 7);
        Edge.due("a default of the heir leaves the dead's", y.of(0, 3), 1);
        Counted z = Village.holders(4, 10, 0);
        Village.payBackLoans(z, 1, 3, 1, 2);
        z.borrow(0, 1, 1, 2);
        z.die(0, 3);
        Village.months(z, 7);
        Edge.due("but takes the heir's", z.of(3, 3), 0);
    }

    private static void vouchingStays() {
        Counted x = Village.holders(4, 10, 200);
        x.borrow(0, 50, 1, 2);
        x.die(1, 3);
        Village.months(x, 7);
        int debt = Village.debtAfter(50, 7);
        Edge.due("the heir of the first pays nothing", x.of(3, 0), 400);
        Edge.due("the second pays the rest", x.of(2, 0), 200 - (debt - debt / 2));
        Counted y = Village.holders(4, 10, 200);
        y.borrow(0, 50, 1, 2);
        y.die(2, 3);
        Village.months(y, 7);
        Edge.due("the heir of the second pays nothing", y.of(3, 0), 400);
        Edge.due("the first pays half", y.of(1, 0), 200 - debt / 2);
        Counted z = Village.holders(4, 10, 200);
        z.borrow(0, 50, 1, 2);
        z.die(1, 2);
        Village.months(z, 7);
        Edge.due("the second as heir of the first pays the rest alone", z.of(2, 0), 400 - (debt - debt / 2));
    }

    private static void truthStays() {
        Counted x = withShares(10, 0);
        x.die(0, 1);
        Edge.due("of the dead", x.of(0, 4), 100);
        Edge.due("of the heir", x.of(1, 4), 0);
        x.feast();
        Edge.due("of the dead, when the heir gets out", x.of(0, 4), 100);
        Edge.due("of the heir", x.of(1, 4), -100);
    }
}
