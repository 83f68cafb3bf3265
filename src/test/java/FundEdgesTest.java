/** Boundaries that "The fund" and promises 11 to 13 name: shares, and loans as they are taken and paid back. */
public final class FundEdgesTest {
    private FundEdgesTest() {
    }

    public static void main(String[] args) {
        Edge.sentence("The fund has cash, 0 at first", FundEdgesTest::emptyFund);
        Edge.sentence("buy: there is no such person", FundEdgesTest::buyNobody);
        Edge.sentence("shares: 1 to 100", FundEdgesTest::shareRange);
        Edge.sentence("a person has at most 100", FundEdgesTest::hundredShares);
        Edge.sentence("A share is bought for 10", FundEdgesTest::priceOfShares);
        Edge.sentence("buy throws, in the clause's order", FundEdgesTest::buyInOrder);
        Edge.sentence("borrow: there is no such person, of any", FundEdgesTest::borrowNobody);
        Edge.sentence("two of the three are the same", FundEdgesTest::twoTheSame);
        Edge.sentence("borrow: amount 1 to 1000", FundEdgesTest::borrowRange);
        Edge.sentence("borrow: one of them is dead", FundEdgesTest::borrowDead);
        Edge.sentence("borrow: or has no share", FundEdgesTest::borrowShares);
        Edge.sentence("borrow: the person has a loan", FundEdgesTest::borrowTwice);
        Edge.sentence("if two others vouch for it", FundEdgesTest::whoVouches);
        Edge.sentence("at most 50 times (1 and the loans paid back so far)", FundEdgesTest::steps);
        Edge.sentence("the loans that this person paid back", FundEdgesTest::stepsOfOthers);
        Edge.sentence("since the last default", FundEdgesTest::stepsSinceDefault);
        Edge.sentence("the debts of the house are at most 500", FundEdgesTest::houseDebts);
        Edge.sentence("all its living people together", FundEdgesTest::wholeHouse);
        Edge.sentence("the debts of the house, as they grew", FundEdgesTest::grownDebts);
        Edge.sentence("the fund has not so much", FundEdgesTest::borrowCash);
        Edge.sentence("borrow throws, in the clause's order", FundEdgesTest::borrowInOrder);
        Edge.sentence("repay: there is no such person", FundEdgesTest::repayNobody);
        Edge.sentence("repay: amount 1 to 10000", FundEdgesTest::repayRange);
        Edge.sentence("of that as much as is owed", FundEdgesTest::repayWhatIsOwed);
        Edge.sentence("repay: the person has no loan", FundEdgesTest::repayNoLoan);
        Edge.sentence("repay: the purse has not so much as is paid", FundEdgesTest::repayPurse);
        Edge.sentence("repay throws, in the clause's order", FundEdgesTest::repayInOrder);
        Check.end("FundEdgesTest");
    }

    private static void emptyFund() {
        Edge.due("cash()", new Counted().cash(), 0);
        Edge.due("cash() with people and circles", Village.started(10, 100, 10, 0).cash(), 0);
        Edge.due("one share", Village.holders(1, 1, 0).cash(), 10);
        Edge.due("16 with 100 shares", Village.holders(16, 100, 0).cash(), 16000);
    }

    private static void buyNobody() {
        Edge.indexOutside("buy(person, 1) of 1", () -> Village.people(1, 50), 0, (x, p) -> x.buy(p, 1));
        Edge.indexOutside("buy(person, 1) of 16", () -> Village.people(16, 50), 15, (x, p) -> x.buy(p, 1));
        Edge.due("buy(15, 1)", Village.people(16, 50).buy(15, 1), 1);
    }

    private static void shareRange() {
        Edge.argumentOutside("buy(0, shares)", () -> Village.people(1, 10000), 1, 100, (x, n) -> x.buy(0, n));
        Edge.due("buy(0, 1)", Village.people(1, 10000).buy(0, 1), 1);
        Edge.due("buy(0, 100)", Village.people(1, 10000).buy(0, 100), 100);
    }

    private static void hundredShares() {
        Edge.due("1 to 99", Village.holders(1, 99, 10).buy(0, 1), 100);
        Edge.due("99 to 1", Village.holders(1, 1, 990).buy(0, 99), 100);
        Edge.due("50 to 50", Village.holders(1, 50, 500).buy(0, 50), 100);
        Edge.state("2 to 99", () -> Village.holders(1, 99, 1000), x -> x.buy(0, 2));
        Edge.state("1 to 100", () -> Village.holders(1, 100, 1000), x -> x.buy(0, 1));
        Edge.state("100 to 1", () -> Village.holders(1, 1, 1000), x -> x.buy(0, 100));
        Edge.state("100 to 100", () -> Village.holders(1, 100, 1000), x -> x.buy(0, 100));
        Edge.due("100 of another", Village.holders(2, 100, 1000).of(1, 1), 100);
        Edge.due("100 behind a feast", Edge.with(Village.holders(1, 100, 0), Counted::feast).buy(0, 100), 100);
        Edge.state("1 to 100 that were inherited", () -> Edge.with(Village.holders(2, 50, 50), x -> x.die(0, 1)),
            x -> x.buy(1, 1));
    }

    private static void priceOfShares() {
        Edge.due("10 for one", Village.people(1, 10).buy(0, 1), 1);
        Edge.state("9 for one", () -> Village.people(1, 9), x -> x.buy(0, 1));
        Edge.state("0 for one", () -> Village.people(1, 0), x -> x.buy(0, 1));
        Edge.due("1000 for 100", Village.people(1, 1000).buy(0, 100), 100);
        Edge.state("999 for 100", () -> Village.people(1, 999), x -> x.buy(0, 100));
        Counted x = Edge.with(Village.people(2, 31), y -> y.buy(0, 3));
        Edge.due("the purse", x.of(0, 0), 1);
        Edge.due("the fund", x.cash(), 30);
        Edge.due("the truth", x.of(0, 4), 30);
        Edge.due("another's purse", x.of(1, 0), 31);
    }

    private static void buyInOrder() {
        Edge.index("nobody, and 0", () -> Village.people(1, 50), x -> x.buy(1, 0));
        Edge.index("nobody, and 101", () -> Village.people(1, 50), x -> x.buy(-1, 101));
        Edge.argument("the dead, and 0", () -> Edge.with(Village.people(2, 50), x -> x.die(0, 1)), x -> x.buy(0, 0));
        Edge.argument("100 shares, and 101", () -> Village.holders(1, 100, 50), x -> x.buy(0, 101));
        Edge.argument("an empty purse, and 101", () -> Village.people(1, 0), x -> x.buy(0, 101));
        Edge.state("the dead", () -> Edge.with(Village.people(2, 50), x -> x.die(0, 1)), x -> x.buy(0, 1));
    }

    private static Counted three() {
        return Village.holders(3, 50, 0);
    }

    private static void borrowNobody() {
        Edge.indexOutside("borrow(person, 5, 1, 2) of 3", FundEdgesTest::three, 2, (x, p) -> x.borrow(p, 5, 1, 2));
        Edge.indexOutside("borrow(0, 5, first, 2) of 3", FundEdgesTest::three, 2, (x, p) -> x.borrow(0, 5, p, 2));
        Edge.indexOutside("borrow(0, 5, 1, second) of 3", FundEdgesTest::three, 2, (x, p) -> x.borrow(0, 5, 1, p));
        Edge.due("0 of 16", Village.holders(16, 1, 0).borrow(0, 5, 14, 15), 5);
        Edge.due("15 of 16", Village.holders(16, 1, 0).borrow(15, 5, 0, 1), 5);
        Edge.index("the 17th of 16", () -> Village.holders(16, 1, 0), x -> x.borrow(0, 5, 16, 15));
    }

    private static void twoTheSame() {
        Edge.argument("the person vouches first", FundEdgesTest::three, x -> x.borrow(0, 5, 0, 1));
        Edge.argument("the person vouches second", FundEdgesTest::three, x -> x.borrow(0, 5, 1, 0));
        Edge.argument("one vouches twice", FundEdgesTest::three, x -> x.borrow(0, 5, 1, 1));
        Edge.argument("all are the same", FundEdgesTest::three, x -> x.borrow(1, 5, 1, 1));
        int[][] orders = {{0, 1, 2}, {0, 2, 1}, {1, 0, 2}, {1, 2, 0}, {2, 0, 1}, {2, 1, 0}};
        for (int[] three : orders) {
            Edge.due("three others", three().borrow(three[0], 5, three[1], three[2]), 5);
        }
    }

    private static void borrowRange() {
        Edge.argumentOutside("borrow(0, amount, 1, 2)", FundEdgesTest::three, 1, 1000,
            (x, amount) -> x.borrow(0, amount, 1, 2));
        Edge.due("borrow(0, 1, 1, 2)", three().borrow(0, 1, 1, 2), 1);
        Edge.state("borrow(0, 1000, 1, 2)", FundEdgesTest::three, x -> x.borrow(0, 1000, 1, 2));
    }

    private static Counted fourOneDead() {
        return Edge.with(Village.holders(4, 10, 0), x -> x.die(3, 0));
    }

    private static void borrowDead() {
        Edge.state("the person", FundEdgesTest::fourOneDead, x -> x.borrow(3, 5, 1, 2));
        Edge.state("the first", FundEdgesTest::fourOneDead, x -> x.borrow(0, 5, 3, 2));
        Edge.state("the second", FundEdgesTest::fourOneDead, x -> x.borrow(0, 5, 1, 3));
        Edge.due("none", fourOneDead().borrow(0, 5, 1, 2), 5);
    }

    /** Four people, all with a share but 3. */
    private static Counted oneWithout() {
        Counted x = Village.people(4, 10);
        for (int p = 0; p < 3; p++) {
            x.buy(p, 1);
        }
        return x;
    }

    private static void borrowShares() {
        Edge.state("the person", FundEdgesTest::oneWithout, x -> x.borrow(3, 5, 1, 2));
        Edge.state("the first", FundEdgesTest::oneWithout, x -> x.borrow(0, 5, 3, 2));
        Edge.state("the second", FundEdgesTest::oneWithout, x -> x.borrow(0, 5, 1, 3));
        Edge.due("each has one share", oneWithout().borrow(0, 5, 1, 2), 5);
        Edge.due("once there is a share", Edge.with(oneWithout(), x -> x.buy(3, 1)).borrow(3, 5, 1, 2), 5);
        Edge.state("none has one, behind a feast", () -> Edge.with(Village.holders(4, 1, 0), x -> {
            x.feast();
            x.buy(0, 1);
            x.buy(1, 1);
        }), x -> x.borrow(0, 5, 1, 2));
        Edge.due("each has 100", Village.holders(3, 100, 0).borrow(0, 50, 1, 2), 50);
    }

    private static void borrowTwice() {
        Edge.state("a second loan", () -> Edge.with(three(), x -> x.borrow(0, 1, 1, 2)), x -> x.borrow(0, 1, 1, 2));
        Edge.state("a second loan, and other vouchers", () -> Edge.with(Village.holders(5, 10, 0), x -> {
            x.borrow(0, 49, 1, 2);
            Village.months(x, 3);
        }), x -> x.borrow(0, 1, 3, 4));
        Edge.state("with one coin owed", () -> Edge.with(three(), x -> {
            x.borrow(0, 50, 1, 2);
            x.repay(0, 49);
        }), x -> x.borrow(0, 1, 1, 2));
        Edge.due("with none owed", Edge.with(three(), x -> {
            x.borrow(0, 50, 1, 2);
            x.repay(0, 50);
        }).borrow(0, 1, 1, 2), 1);
        Edge.due("behind a default", Edge.with(three(), x -> {
            x.borrow(0, 50, 1, 2);
            Village.months(x, 7);
        }).borrow(0, 1, 1, 2), 51);
        Edge.due("another has a loan", Edge.with(three(), x -> x.borrow(1, 1, 0, 2)).borrow(0, 1, 1, 2), 1);
    }

    private static void whoVouches() {
        Counted x = three();
        Edge.due("both vouch", x.borrow(0, 5, 1, 2), 5);
        Edge.due("who vouched borrows, and who borrowed vouches", x.borrow(1, 5, 0, 2), 5);
        Edge.due("each vouches for two", x.borrow(2, 5, 0, 1), 5);
        Edge.due("the debts", x.of(0, 2) + x.of(1, 2) + x.of(2, 2), 15);
        Counted y = new Counted();
        for (int p = 0; p < 3; p++) {
            y.person(30, 5);
            y.earn(p, 10);
            y.buy(p, 1);
        }
        Edge.due("both of the own house", y.borrow(0, 5, 1, 2), 5);
    }

    private static Counted atStep(int paidBack) {
        return Edge.with(Village.holders(3, 100, 0), x -> Village.payBackLoans(x, paidBack, 0, 1, 2));
    }

    private static void steps() {
        for (int paidBack = 0; paidBack <= 9; paidBack++) {
            int most = 50 * (1 + paidBack);
            Edge.due("paid back " + paidBack, atStep(paidBack).of(0, 3), paidBack);
            Edge.due("borrow(0, " + most + ")", atStep(paidBack).borrow(0, most, 1, 2), most);
            Edge.state("borrow(0, " + (most + 1) + ")", () -> atStep(most / 50 - 1),
                x -> x.borrow(0, most + 1, 1, 2));
        }
        Edge.due("500 at the 11th", atStep(10).borrow(0, 500, 1, 2), 500);
        Edge.state("501 at the 11th", () -> atStep(10), x -> x.borrow(0, 501, 1, 2));
        Edge.state("1000 at the 21st", () -> atStep(20), x -> x.borrow(0, 1000, 1, 2));
    }

    private static void stepsOfOthers() {
        Edge.state("another's do not count", () -> atStep(3), x -> x.borrow(1, 51, 0, 2));
        Counted x = three();
        x.borrow(0, 50, 1, 2);
        x.repay(0, 25);
        Edge.due("a part does not count", x.of(0, 3), 0);
        x.repay(0, 24);
        Edge.due("all but one does not count", x.of(0, 3), 0);
        x.repay(0, 1);
        Edge.due("all counts once", x.of(0, 3), 1);
        Edge.due("not for who vouched", x.of(1, 3) + x.of(2, 3), 0);
    }

    private static Counted afterDefault() {
        return Edge.with(atStep(3), x -> {
            x.borrow(0, 1, 1, 2);
            Village.months(x, 7);
        });
    }

    private static void stepsSinceDefault() {
        Edge.due("none", afterDefault().of(0, 3), 0);
        Edge.due("50", afterDefault().borrow(0, 50, 1, 2), 51);
        Edge.state("51", FundEdgesTest::afterDefault, x -> x.borrow(0, 51, 1, 2));
        Edge.due("100 behind one more", Edge.with(afterDefault(), x -> Village.payBackLoans(x, 1, 0, 1, 2))
            .borrow(0, 100, 1, 2), 101);
        Edge.state("101 behind one more", () -> Edge.with(afterDefault(),
            x -> Village.payBackLoans(x, 1, 0, 1, 2)), x -> x.borrow(0, 101, 1, 2));
        Counted x = Village.holders(4, 100, 0);
        Village.payBackLoans(x, 2, 1, 2, 3);
        x.borrow(0, 50, 1, 2);
        Village.months(x, 7);
        Edge.due("who vouched keeps the steps", x.of(1, 3), 2);
        Edge.due("who vouched borrows 150", x.borrow(1, 150, 2, 3), 150);
    }

    /** 0 and 1 are of one house, 4 is of the house of 1 alone; each may borrow 500. */
    private static Counted house(int debtOf1) {
        Counted x = new Counted();
        int[] names = {0, 1, 55555, 66666, 11};
        for (int p = 0; p < names.length; p++) {
            x.person(30, names[p]);
            x.earn(p, 1000);
            x.buy(p, 50);
        }
        Village.payBackLoans(x, 9, 0, 2, 3);
        Village.payBackLoans(x, 9, 1, 2, 3);
        Village.payBackLoans(x, 9, 4, 2, 3);
        if (debtOf1 > 0) {
            x.borrow(1, debtOf1, 2, 3);
        }
        return x;
    }

    private static void houseDebts() {
        Edge.due("500 and none", house(0).borrow(0, 500, 2, 3), 1000);
        Edge.due("499 and 1", house(1).borrow(0, 499, 2, 3), 999);
        Edge.state("500 and 1", () -> house(1), x -> x.borrow(0, 500, 2, 3));
        Edge.due("250 and 250", house(250).borrow(0, 250, 2, 3), 750);
        Edge.state("251 and 250", () -> house(250), x -> x.borrow(0, 251, 2, 3));
        Edge.due("1 and 499", house(499).borrow(0, 1, 2, 3), 501);
        Edge.state("2 and 499", () -> house(499), x -> x.borrow(0, 2, 2, 3));
        Edge.state("1 and 500", () -> house(500), x -> x.borrow(0, 1, 2, 3));
        Edge.due("two figures differ", house(500).borrow(2, 50, 3, 4), 550);
    }

    private static void wholeHouse() {
        Counted x = house(200);
        Edge.due("4 and 1", x.borrow(4, 300, 2, 3), 800);
        Edge.due("0 and 1, without 4", x.borrow(0, 300, 2, 3), 800);
        Edge.state("1 would be with both", () -> Edge.with(house(0), y -> {
            y.borrow(0, 300, 2, 3);
            y.borrow(4, 200, 2, 3);
        }), y -> y.borrow(1, 1, 2, 3));
        Edge.due("1 with both", Edge.with(house(0), y -> {
            y.borrow(0, 300, 2, 3);
            y.borrow(4, 199, 2, 3);
        }).borrow(1, 1, 2, 3), 501);
        Edge.due("the dead owe nothing", Edge.with(house(500), y -> y.die(1, 2)).borrow(0, 500, 3, 4), 1000);
        Edge.state("what the heir in the house owes", FundEdgesTest::heirInHouse, y -> y.borrow(4, 1, 2, 3));
        Edge.due("who is dead may be in it", Edge.with(house(0), y -> y.die(1, 2)).borrow(0, 500, 3, 4), 1000);
    }

    /** The names 1 and 11 differ in one figure, and the debt of 500 stays with the name 1. */
    private static Counted heirInHouse() {
        Counted x = house(0);
        x.borrow(0, 500, 2, 3);
        x.die(0, 1);
        return x;
    }

    private static void grownDebts() {
        Counted x = house(400);
        x.month(false);
        Edge.due("400 grew", x.of(1, 2), 420);
        Edge.due("80 and 420", x.borrow(0, 80, 2, 3), 580);
        Edge.state("81 and 420", () -> Edge.with(house(400), y -> y.month(false)), y -> y.borrow(0, 81, 2, 3));
        Edge.state("1 and 525", () -> Edge.with(house(500), y -> y.month(false)), y -> y.borrow(0, 1, 2, 3));
        Edge.due("500 behind paying back", Edge.with(house(500), y -> y.repay(1, 500)).borrow(0, 500, 2, 3), 1000);
        Edge.due("500 behind a default", Edge.with(house(500), y -> Village.months(y, 7)).borrow(0, 500, 2, 3), 1000);
    }

    private static void borrowCash() {
        Edge.due("all of 30", Village.holders(3, 1, 0).borrow(0, 30, 1, 2), 30);
        Edge.due("nothing is left", Edge.with(Village.holders(3, 1, 0), x -> x.borrow(0, 30, 1, 2)).cash(), 0);
        Edge.state("31 of 30", () -> Village.holders(3, 1, 0), x -> x.borrow(0, 31, 1, 2));
        Edge.state("1 of 0", () -> Edge.with(Village.holders(3, 1, 0), x -> x.borrow(0, 30, 1, 2)),
            x -> x.borrow(1, 1, 0, 2));
        Edge.due("1 of 1", Edge.with(Village.holders(3, 1, 0), x -> x.borrow(0, 29, 1, 2)).borrow(1, 1, 0, 2), 1);
    }

    private static void borrowInOrder() {
        Edge.index("nobody, and the same", FundEdgesTest::three, x -> x.borrow(3, 5, 3, 1));
        Edge.index("no second, and the same", FundEdgesTest::three, x -> x.borrow(0, 5, 0, 3));
        Edge.index("no first, and 0", FundEdgesTest::three, x -> x.borrow(0, 0, -1, 2));
        Edge.index("no second, and 1001", FundEdgesTest::three, x -> x.borrow(0, 1001, 1, 3));
        Edge.index("nobody, and the dead", FundEdgesTest::fourOneDead, x -> x.borrow(4, 5, 3, 1));
        Edge.argument("the same, and dead", FundEdgesTest::fourOneDead, x -> x.borrow(0, 5, 3, 3));
        Edge.argument("the same, and without a share", FundEdgesTest::oneWithout, x -> x.borrow(3, 5, 3, 1));
        Edge.argument("0, and dead", FundEdgesTest::fourOneDead, x -> x.borrow(3, 0, 1, 2));
        Edge.argument("1001, and without a share", FundEdgesTest::oneWithout, x -> x.borrow(0, 1001, 1, 3));
        Edge.argument("0, and with a loan", () -> Edge.with(three(), x -> x.borrow(0, 1, 1, 2)),
            x -> x.borrow(0, 0, 1, 2));
        Edge.argument("1001, and an empty fund", () -> Edge.with(Village.holders(3, 1, 0),
            x -> x.borrow(0, 30, 1, 2)), x -> x.borrow(1, 1001, 0, 2));
    }

    private static Counted owing(int amount, int purse) {
        Counted x = three();
        x.borrow(0, amount, 1, 2);
        x.earn(0, purse - amount);
        return x;
    }

    private static void repayNobody() {
        Edge.indexOutside("repay(person, 1) of 3", () -> owing(5, 5), 2, (x, p) -> x.repay(p, 1));
        Edge.indexOutside("repay(person, 1) of 16", () -> Village.people(16, 5), 15, (x, p) -> x.repay(p, 1));
        Counted x = Village.holders(16, 1, 0);
        x.borrow(15, 5, 0, 1);
        Edge.due("repay(15, 5)", x.repay(15, 5), 0);
    }

    private static void repayRange() {
        Edge.argumentOutside("repay(0, amount)", () -> owing(50, 50), 1, 10000, (x, amount) -> x.repay(0, amount));
        Edge.due("repay(0, 1)", owing(50, 50).repay(0, 1), 49);
        Edge.due("repay(0, 10000)", owing(50, 50).repay(0, 10000), 0);
    }

    private static void repayWhatIsOwed() {
        int[] amounts = {49, 50, 51, 10000};
        for (int amount : amounts) {
            Counted x = owing(50, 60);
            int paid = Math.min(50, amount);
            Edge.due("repay(0, " + amount + ")", x.repay(0, amount), 50 - paid);
            Edge.due("the purse", x.of(0, 0), 60 - paid);
            Edge.due("the debt", x.of(0, 2), 50 - paid);
            Edge.due("paid back", x.of(0, 3), paid / 50);
            Edge.due("the truth", x.of(0, 4), 450 + paid);
            Edge.due("the fund", x.cash(), 1450 + paid);
        }
        Edge.due("the only coin", owing(1, 2).repay(0, 1), 0);
        Counted z = owing(50, 53);
        z.month(false);
        Edge.due("what it grew is owed, too", z.repay(0, 50), 3);
        Edge.due("no loan is paid back yet", z.of(0, 3), 0);
        Edge.due("the rest", z.repay(0, 3), 0);
        Edge.due("one is paid back", z.of(0, 3), 1);
    }

    private static void repayNoLoan() {
        Edge.state("never", FundEdgesTest::three, x -> x.repay(0, 1));
        Edge.state("paid back", () -> Edge.with(owing(50, 60), x -> x.repay(0, 50)), x -> x.repay(0, 1));
        Edge.state("in default", () -> Edge.with(owing(50, 60), x -> Village.months(x, 7)), x -> x.repay(0, 1));
        Edge.state("who vouched", () -> owing(50, 60), x -> x.repay(1, 1));
        Edge.state("the dead", () -> Edge.with(Village.holders(4, 10, 5), x -> {
            x.borrow(0, 50, 1, 2);
            x.die(0, 3);
        }), x -> x.repay(0, 1));
    }

    private static void repayPurse() {
        Edge.due("all of the purse", owing(50, 20).repay(0, 20), 30);
        Edge.due("the purse is empty", Edge.with(owing(50, 20), x -> x.repay(0, 20)).of(0, 0), 0);
        Edge.state("one more", () -> owing(50, 20), x -> x.repay(0, 21));
        Edge.state("an empty purse", () -> owing(50, 0), x -> x.repay(0, 1));
        Edge.due("50 of 50, by 10000", owing(50, 50).repay(0, 10000), 0);
        Edge.state("50 of 49, by 50", () -> owing(50, 49), x -> x.repay(0, 50));
        Edge.state("50 of 49, by 10000", () -> owing(50, 49), x -> x.repay(0, 10000));
    }

    private static void repayInOrder() {
        Edge.index("nobody, and 0", () -> owing(50, 50), x -> x.repay(3, 0));
        Edge.index("nobody, and 10001", () -> owing(50, 50), x -> x.repay(-1, 10001));
        Edge.argument("no loan, and 0", FundEdgesTest::three, x -> x.repay(0, 0));
        Edge.argument("no loan, and 10001", FundEdgesTest::three, x -> x.repay(0, 10001));
        Edge.argument("an empty purse, and 10001", () -> owing(50, 0), x -> x.repay(0, 10001));
    }
}
