/** Boundaries that "The fund" and promises 14 and 15 name: months, defaults, and feasts. */
public final class MonthEdgesTest {
    private MonthEdgesTest() {
    }

    public static void main(String[] args) {
        Edge.sentence("makes each debt a twentieth more, rounded up", MonthEdgesTest::twentieths);
        Edge.sentence("A month that goes by without drought", MonthEdgesTest::droughts);
        Edge.sentence("month: without loans", MonthEdgesTest::noLoans);
        Edge.sentence("a loan that is older than 6 months by that is in default", MonthEdgesTest::sixMonths);
        Edge.sentence("the first pays half of it, the second the rest", MonthEdgesTest::halves);
        Edge.sentence("each as far as the purse goes", MonthEdgesTest::asFarAsThePurseGoes);
        Edge.sentence("the second the rest: what the first lacks is no part of it", MonthEdgesTest::restIsNoMore);
        Edge.sentence("nothing, if dead", MonthEdgesTest::deadVouchers);
        Edge.sentence("what lacks is lost", MonthEdgesTest::whatLacksIsLost);
        Edge.sentence("the loan is over", MonthEdgesTest::loanIsOver);
        Edge.sentence("counts as having paid back none so far", MonthEdgesTest::noneSoFar);
        Edge.sentence("by rising people", MonthEdgesTest::risingPeople);
        Edge.sentence("Returns how many loans are in default by that", MonthEdgesTest::howMany);
        Edge.sentence("feast: there are no shares", MonthEdgesTest::feastWithoutShares);
        Edge.sentence("feast: somebody has a loan", MonthEdgesTest::feastWithLoan);
        Edge.sentence("for each share the cash divided by all shares", MonthEdgesTest::feastDivides);
        Edge.sentence("all shares are 0 then", MonthEdgesTest::feastTakesShares);
        Check.end("MonthEdgesTest");
    }

    private static int grown(int debt) {
        Counted x = Village.holders(3, 50, 0);
        Village.payBackLoans(x, 9, 0, 1, 2);
        x.borrow(0, debt, 1, 2);
        int cash = x.cash();
        Edge.due("none in default", x.month(false), 0);
        Edge.due("the purse", x.of(0, 0), debt);
        Edge.due("the fund", x.cash(), cash);
        return x.of(0, 2);
    }

    private static void twentieths() {
        int[] debts = {1, 2, 19, 20, 21, 39, 40, 41, 50, 499, 500};
        int[] due = {2, 3, 20, 21, 23, 41, 42, 44, 53, 524, 525};
        for (int i = 0; i < debts.length; i++) {
            Edge.due("of " + debts[i], grown(debts[i]), due[i]);
        }
        Counted x = Village.holders(3, 50, 0);
        x.borrow(0, 1, 1, 2);
        x.borrow(1, 20, 0, 2);
        x.borrow(2, 41, 0, 1);
        x.month(false);
        Edge.due("each debt, of 0", x.of(0, 2), 2);
        Edge.due("each debt, of 1", x.of(1, 2), 21);
        Edge.due("each debt, of 2", x.of(2, 2), 44);
    }

    private static void droughts() {
        Counted x = Village.holders(3, 50, 100);
        x.borrow(0, 50, 1, 2);
        for (int month = 0; month < 20; month++) {
            Edge.due("none in default", x.month(true), 0);
        }
        Edge.due("the debt rests", x.of(0, 2), 50);
        for (int month = 0; month < 6; month++) {
            Edge.due("none in default", x.month(false), 0);
            Edge.due("none in default", x.month(true), 0);
        }
        Edge.due("the debt of six months", x.of(0, 2), Village.debtAfter(50, 6));
        Edge.due("a drought makes no loan older", x.month(true), 0);
        Edge.due("the seventh without drought", x.month(false), 1);
    }

    private static void noLoans() {
        Edge.due("no people", new Counted().month(false), 0);
        Edge.due("16 people", Village.people(16, 5).month(false), 0);
        Counted x = Village.holders(3, 50, 0);
        x.borrow(0, 1, 1, 2);
        x.repay(0, 1);
        Edge.due("a loan that is paid back", x.month(false), 0);
        Edge.due("no debt grows out of nothing", x.of(0, 2), 0);
    }

    private static void sixMonths() {
        Counted x = Village.holders(3, 50, 100);
        x.borrow(0, 50, 1, 2);
        for (int month = 1; month <= 6; month++) {
            Edge.due("month " + month, x.month(false), 0);
            Edge.due("the debt", x.of(0, 2), Village.debtAfter(50, month));
            Edge.due("nobody pays", x.of(1, 0) + x.of(2, 0), 200);
        }
        Edge.due("month 7", x.month(false), 1);
        Edge.due("month 8", x.month(false), 0);
        Counted y = Village.holders(3, 50, 100);
        y.borrow(0, 50, 1, 2);
        Village.months(y, 6);
        y.repay(0, 60);
        Edge.due("a part paid back makes it no younger", y.month(false), 1);
        Counted z = Village.holders(3, 50, 100);
        z.borrow(0, 50, 1, 2);
        Village.months(z, 6);
        Edge.due("paid back at the last", z.repay(0, 10000), 0);
        Edge.due("no default", z.month(false), 0);
        z.borrow(0, 50, 1, 2);
        Village.months(z, 5);
        Edge.due("the sixth month of the next loan", z.month(false), 0);
        Edge.due("the seventh month of the next loan", z.month(false), 1);
    }

    /** 1 and 2 vouch, with so much in their purses, for a loan that is in default now. */
    private static Counted afterDefault(int loan, int purse1, int purse2) {
        Counted x = beforeDefault(loan, purse1, purse2);
        Edge.due("in default", x.month(false), 1);
        return x;
    }

    private static Counted beforeDefault(int loan, int purse1, int purse2) {
        Counted x = Village.holders(4, 10, 0);
        x.earn(1, purse1);
        x.earn(2, purse2);
        x.earn(3, 1000);
        x.borrow(0, loan, 1, 2);
        Village.months(x, 6);
        return x;
    }

    private static void checkPaid(Counted x, int loan, int paid1, int paid2, int purse1, int purse2) {
        Edge.due("the first pays", purse1 - x.of(1, 0), paid1);
        Edge.due("the second pays", purse2 - x.of(2, 0), paid2);
        Edge.due("the truth of the first", x.of(1, 4), 100 + paid1);
        Edge.due("the truth of the second", x.of(2, 4), 100 + paid2);
        Edge.due("the truth of who borrowed", x.of(0, 4), 100 - loan);
        Edge.due("who borrowed pays nothing", x.of(0, 0), loan);
        Edge.due("nor does another", x.of(3, 0), 1000);
        Edge.due("the fund", x.cash(), 400 - loan + paid1 + paid2);
        Edge.due("coins()", x.coins(), 0);
    }

    private static void halves() {
        Edge.due("50 is 74 in seven months", Village.debtAfter(50, 7), 74);
        checkPaid(afterDefault(50, 100, 100), 50, 37, 37, 100, 100);
        Edge.due("49 is 73 in seven months", Village.debtAfter(49, 7), 73);
        checkPaid(afterDefault(49, 100, 100), 49, 36, 37, 100, 100);
        Edge.due("1 is 8 in seven months", Village.debtAfter(1, 7), 8);
        checkPaid(afterDefault(1, 100, 100), 1, 4, 4, 100, 100);
        Counted x = beforeDefault(1, 100, 100);
        x.earn(0, 10);
        x.repay(0, 6);
        Edge.due("one coin is left to grow", x.of(0, 2), 1);
        Edge.due("in default", x.month(false), 1);
        Edge.due("the first pays half of 2", x.of(1, 0), 99);
        Edge.due("the second pays the rest of 2", x.of(2, 0), 99);
    }

    private static void asFarAsThePurseGoes() {
        checkPaid(afterDefault(50, 37, 37), 50, 37, 37, 37, 37);
        checkPaid(afterDefault(50, 38, 38), 50, 37, 37, 38, 38);
        checkPaid(afterDefault(50, 36, 100), 50, 36, 37, 36, 100);
        checkPaid(afterDefault(50, 100, 36), 50, 37, 36, 100, 36);
        checkPaid(afterDefault(50, 0, 100), 50, 0, 37, 0, 100);
        checkPaid(afterDefault(50, 100, 0), 50, 37, 0, 100, 0);
        checkPaid(afterDefault(50, 0, 0), 50, 0, 0, 0, 0);
        checkPaid(afterDefault(49, 36, 36), 49, 36, 36, 36, 36);
        checkPaid(afterDefault(49, 35, 37), 49, 35, 37, 35, 37);
    }

    private static void restIsNoMore() {
        checkPaid(afterDefault(50, 0, 1000), 50, 0, 37, 0, 1000);
        checkPaid(afterDefault(49, 1, 1000), 49, 1, 37, 1, 1000);
        checkPaid(afterDefault(50, 1000, 0), 50, 37, 0, 1000, 0);
    }

    private static void deadVouchers() {
        Counted x = beforeDefault(50, 100, 100);
        x.die(1, 3);
        Edge.due("the first is dead", x.month(false), 1);
        Edge.due("the second pays the rest", x.of(2, 0), 63);
        Edge.due("the dead", x.of(1, 0), 0);
        Edge.due("the truth of the dead", x.of(1, 4), 100);
        Edge.due("the heir of the first pays nothing", x.of(3, 0), 1100);
        Counted y = beforeDefault(50, 100, 100);
        y.die(2, 3);
        Edge.due("the second is dead", y.month(false), 1);
        Edge.due("the first pays half", y.of(1, 0), 63);
        Edge.due("the truth of the dead", y.of(2, 4), 100);
        Edge.due("the heir of the second pays nothing", y.of(3, 0), 1100);
        Counted z = beforeDefault(50, 100, 100);
        z.die(1, 3);
        z.die(2, 3);
        Edge.due("both are dead", z.month(false), 1);
        Edge.due("the fund gets nothing", z.cash(), 350);
        Edge.due("the heir of both pays nothing", z.of(3, 0), 1200);
    }

    private static void whatLacksIsLost() {
        Counted x = afterDefault(50, 0, 0);
        Edge.due("the fund", x.cash(), 350);
        x.earn(1, 1000);
        x.earn(2, 1000);
        Edge.due("nothing is in default any more", x.month(false), 0);
        Edge.due("the first pays no more", x.of(1, 0), 1000);
        Edge.due("the second pays no more", x.of(2, 0), 1000);
        Edge.due("the fund", x.cash(), 350);
    }

    private static void loanIsOver() {
        Edge.due("nothing is owed", afterDefault(50, 0, 0).of(0, 2), 0);
        Edge.due("nothing is owed", afterDefault(50, 100, 100).of(0, 2), 0);
        Edge.state("there is nothing to repay", () -> afterDefault(50, 0, 0), x -> x.repay(0, 1));
        Edge.due("one may borrow", afterDefault(50, 0, 0).borrow(0, 50, 1, 2), 100);
        Edge.due("there may be a feast", afterDefault(50, 0, 0).feast(), 8);
    }

    private static void noneSoFar() {
        Counted x = Village.holders(4, 10, 100);
        Village.payBackLoans(x, 3, 0, 1, 2);
        Village.payBackLoans(x, 2, 1, 2, 3);
        x.borrow(0, 1, 1, 2);
        Village.months(x, 6);
        Edge.due("before", x.of(0, 3), 3);
        x.month(false);
        Edge.due("behind", x.of(0, 3), 0);
        Edge.due("of the first", x.of(1, 3), 2);
        Village.payBackLoans(x, 1, 0, 1, 2);
        Edge.due("and one more", x.of(0, 3), 1);
    }

    /** Both debtors and those who vouch for them are mixed, and no purse has enough for all. */
    private static void risingPeople() {
        Counted x = Village.holders(4, 10, 0);
        x.borrow(3, 50, 0, 1);
        x.borrow(2, 50, 1, 0);
        x.earn(0, 40);
        x.earn(1, 50);
        Village.months(x, 6);
        Edge.due("both in one month", x.month(false), 2);
        Edge.due("0 pays 37 and 3", x.of(0, 0), 0);
        Edge.due("1 pays 37 and 13", x.of(1, 0), 0);
        Edge.due("the fund", x.cash(), 390);
        Counted y = Village.holders(3, 10, 0);
        y.borrow(0, 50, 1, 2);
        y.borrow(1, 50, 0, 2);
        Village.months(y, 7);
        Edge.due("0 pays from what 0 borrowed", y.of(0, 0), 13);
        Edge.due("1 pays from what 1 borrowed", y.of(1, 0), 13);
        Edge.due("2 has nothing", y.of(2, 0), 0);
    }

    private static void howMany() {
        Counted x = Village.holders(16, 10, 0);
        for (int p = 0; p < 16; p++) {
            x.borrow(p, 50, (p + 1) % 16, (p + 2) % 16);
        }
        Village.months(x, 6);
        Edge.due("all 16", x.month(false), 16);
        Edge.due("none is left", x.month(false), 0);
        Counted y = Village.holders(3, 10, 0);
        y.borrow(0, 5, 1, 2);
        y.month(false);
        y.borrow(1, 5, 0, 2);
        Village.months(y, 5);
        Edge.due("the older one", y.month(false), 1);
        Edge.due("the younger one", y.month(false), 1);
        Edge.due("none", y.month(false), 0);
    }

    private static void feastWithoutShares() {
        Edge.state("no people", Counted::new, Counted::feast);
        Edge.state("16 people without", () -> Village.people(16, 100), Counted::feast);
        Edge.state("behind a feast", () -> Edge.with(Village.holders(3, 7, 0), Counted::feast), Counted::feast);
        Edge.state("no shares, but cash", () -> Edge.with(Village.holders(3, 7, 10), x -> {
            x.borrow(0, 20, 1, 2);
            x.month(false);
            x.repay(0, 21);
            x.feast();
        }), Counted::feast);
        Edge.due("one share", Village.holders(1, 1, 0).feast(), 10);
        Edge.due("one share of 16 people", Edge.with(Village.people(16, 10), x -> x.buy(15, 1)).feast(), 10);
    }

    private static void feastWithLoan() {
        Edge.state("of one coin", () -> Edge.with(Village.holders(3, 7, 0), x -> x.borrow(2, 1, 0, 1)),
            Counted::feast);
        Edge.state("of who is the first", () -> Edge.with(Village.holders(3, 7, 0), x -> x.borrow(0, 1, 2, 1)),
            Counted::feast);
        Edge.state("of the heir", () -> Edge.with(Village.holders(3, 7, 0), x -> {
            x.borrow(0, 1, 2, 1);
            x.die(0, 1);
        }), Counted::feast);
        Edge.state("of an heir who had no share", () -> Edge.with(Village.holders(3, 7, 0), x -> {
            x.person(30, Village.nameOf(3));
            x.borrow(0, 1, 2, 1);
            x.die(0, 3);
        }), Counted::feast);
        Edge.due("paid back", Edge.with(Village.holders(3, 7, 0), x -> Village.payBackLoans(x, 1, 0, 1, 2)).feast(), 10);
    }

    /** Of 30 in the fund with 3 shares so much was lent, and lost. */
    private static Counted lost(int amount) {
        Counted x = Village.holders(3, 1, 0);
        x.borrow(0, amount, 1, 2);
        Village.months(x, 7);
        return x;
    }

    private static void feastDivides() {
        Edge.due("no cash at all", lost(30).feast(), 0);
        Edge.due("2 for 3 shares", lost(28).feast(), 0);
        Edge.due("3 for 3 shares", lost(27).feast(), 1);
        Edge.due("5 for 3 shares", lost(25).feast(), 1);
        Edge.due("6 for 3 shares", lost(24).feast(), 2);
        Edge.due("2 stay", Edge.with(lost(28), Counted::feast).cash(), 2);
        Edge.due("none stay", Edge.with(lost(27), Counted::feast).cash(), 0);
        Edge.due("2 stay", Edge.with(lost(25), Counted::feast).cash(), 2);
        Counted x = Village.holders(16, 100, 0);
        Edge.due("1600 shares", x.feast(), 10);
        for (int p = 0; p < 16; p++) {
            Edge.due("for 100 shares", x.of(p, 0), 1000);
            Edge.due("the truth", x.of(p, 4), 0);
        }
        Edge.due("an empty fund", x.cash(), 0);
        Counted y = Edge.with(Village.people(3, 100), z -> {
            z.buy(0, 1);
            z.buy(2, 9);
        });
        y.feast();
        Edge.due("for 1 share", y.of(0, 0), 100);
        Edge.due("for none", y.of(1, 0), 100);
        Edge.due("for 9 shares", y.of(2, 0), 100);
        Counted z = Edge.with(lost(25), Counted::feast);
        z.earn(1, 9);
        z.buy(1, 1);
        Edge.due("what stayed is shared out at the next feast", z.feast(), 12);
    }

    private static void feastTakesShares() {
        Counted x = Village.holders(16, 100, 0);
        x.feast();
        for (int p = 0; p < 16; p++) {
            Edge.due("the shares of " + p, x.of(p, 1), 0);
        }
        Counted y = Edge.with(lost(30), Counted::feast);
        Edge.due("when each share gets 0, too", y.of(0, 1) + y.of(1, 1) + y.of(2, 1), 0);
        Edge.state("nobody may borrow then", () -> Edge.with(lost(20), Counted::feast), z -> z.borrow(0, 1, 1, 2));
    }
}
