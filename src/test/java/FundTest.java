/** Promises 11 to 15: buy, borrow, repay, month, feast. */
public final class FundTest {
    private FundTest() {
    }

    public static void main(String[] args) {
        buy();
        borrowRefusals();
        borrowSteps();
        borrowNeedsShares();
        borrowFromFund();
        borrowInHouse();
        repay();
        monthGrows();
        monthDefaults();
        vouchersPayAsFarAsTheyCan();
        defaultsByRisingPeople();
        feast();
        feastRefusals();
        Check.end("FundTest");
    }

    /** People of houses of their own, each with so much left behind buying the shares. */
    private static Counted holders(int count, int shares, int left) {
        Counted x = new Counted();
        for (int p = 0; p < count; p++) {
            x.person(30, p * 11111);
            x.earn(p, shares * 10 + left);
            x.buy(p, shares);
        }
        return x;
    }

    private static void buy() {
        Counted x = new Counted();
        x.person(20, 1);
        x.person(20, 2);
        x.earn(0, 1009);
        Check.outOfIndex(x, "buy(2, 1)", o -> o.buy(2, 1));
        Check.outOfIndex(x, "buy(-1, 0)", o -> o.buy(-1, 0));
        Check.badArgument(x, "buy(0, 0)", o -> o.buy(0, 0));
        Check.badArgument(x, "buy(0, 101)", o -> o.buy(0, 101));
        Check.badArgument(x, "buy(0, -1)", o -> o.buy(0, -1));
        Check.badState(x, "buy(1, 1) without coins", o -> o.buy(1, 1));
        Check.due("buy(0, 99)", x.buy(0, 99), 99);
        Check.due("the purse", x.of(0, 0), 19);
        Check.due("cash()", x.cash(), 990);
        Check.due("the truth", x.of(0, 4), 990);
        Check.badState(x, "buy(0, 2)", o -> o.buy(0, 2));
        Check.due("buy(0, 1)", x.buy(0, 1), 100);
        x.earn(0, 100);
        Check.badState(x, "a share too many", o -> o.buy(0, 1));
        Check.due("the shares", x.of(0, 1), 100);
        x.earn(1, 9);
        Check.badState(x, "a coin too few", o -> o.buy(1, 1));
        x.earn(1, 1);
        Check.due("buy(1, 1)", x.buy(1, 1), 1);
        Check.due("the purse", x.of(1, 0), 0);
        Check.due("coins()", x.coins(), 0);
        x.earn(1, 10);
        Counted y = new Counted();
        y.person(20, 1);
        y.person(20, 2);
        y.die(0, 1);
        Check.badState(y, "the dead", o -> o.buy(0, 1));
        Check.badArgument(y, "the dead, and no share", o -> o.buy(0, 0));
    }

    private static void borrowRefusals() {
        Counted x = holders(3, 50, 0);
        Check.outOfIndex(x, "borrow(3, ..)", o -> o.borrow(3, 50, 1, 2));
        Check.outOfIndex(x, "borrow(0, 50, -1, 2)", o -> o.borrow(0, 50, -1, 2));
        Check.outOfIndex(x, "borrow(0, 50, 1, 3)", o -> o.borrow(0, 50, 1, 3));
        Check.outOfIndex(x, "borrow(0, 0, 0, 3)", o -> o.borrow(0, 0, 0, 3));
        Check.badArgument(x, "borrow(0, 50, 0, 2)", o -> o.borrow(0, 50, 0, 2));
        Check.badArgument(x, "borrow(0, 50, 2, 0)", o -> o.borrow(0, 50, 2, 0));
        Check.badArgument(x, "borrow(0, 50, 2, 2)", o -> o.borrow(0, 50, 2, 2));
        Check.badArgument(x, "borrow(0, 0, 1, 2)", o -> o.borrow(0, 0, 1, 2));
        Check.badArgument(x, "borrow(0, 1001, 1, 2)", o -> o.borrow(0, 1001, 1, 2));
        Check.badState(x, "borrow(0, 1000, 1, 2)", o -> o.borrow(0, 1000, 1, 2));
        Check.due("borrow(0, 1, 1, 2)", x.borrow(0, 1, 1, 2), 1);
        Check.badState(x, "a second loan", o -> o.borrow(0, 1, 1, 2));
        Check.badArgument(x, "a second loan of 1001", o -> o.borrow(0, 1001, 1, 2));
        Check.due("who has a loan vouches", x.borrow(1, 50, 0, 2), 50);
        Check.due("the debt", x.of(1, 2), 50);
        Check.due("the truth", x.of(1, 4), 450);
        Check.due("cash()", x.cash(), 1449);
        Check.due("coins()", x.coins(), 0);
    }

    private static void borrowSteps() {
        Counted x = holders(3, 100, 0);
        for (int step = 1; step <= 10; step++) {
            int most = 50 * step;
            Check.badState(x, "above step " + step, o -> o.borrow(0, most + 1, 1, 2));
            Check.due("step " + step, x.borrow(0, most, 1, 2), most);
            Check.due("paid back", x.repay(0, most), 0);
            Check.due("loans paid back", x.of(0, 3), step);
        }
        Check.badState(x, "above what a house may owe", o -> o.borrow(0, 501, 1, 2));
        Check.due("what a house may owe", x.borrow(0, 500, 1, 2), 500);
        Check.badState(x, "another's steps", o -> o.borrow(1, 51, 0, 2));
    }

    private static void borrowNeedsShares() {
        Counted x = holders(3, 1, 0);
        x.person(30, 77777);
        x.person(30, 88888);
        x.die(4, 0);
        Check.badState(x, "no share", o -> o.borrow(3, 1, 0, 1));
        Check.badState(x, "the first has no share", o -> o.borrow(0, 1, 3, 1));
        Check.badState(x, "the second has no share", o -> o.borrow(0, 1, 1, 3));
        Check.badState(x, "the dead borrows", o -> o.borrow(4, 1, 0, 1));
        Check.badState(x, "the dead vouches", o -> o.borrow(0, 1, 1, 4));
        Check.due("one share is enough", x.borrow(0, 1, 1, 2), 1);
    }

    private static void borrowFromFund() {
        Counted x = holders(3, 1, 0);
        Check.badState(x, "more than the fund has", o -> o.borrow(0, 31, 1, 2));
        Check.due("all that the fund has", x.borrow(0, 30, 1, 2), 30);
        Check.due("cash()", x.cash(), 0);
        Check.badState(x, "an empty fund", o -> o.borrow(1, 1, 0, 2));
    }

    private static void borrowInHouse() {
        Counted x = new Counted();
        int[] names = {0, 1, 10, 99999, 88888};
        for (int p = 0; p < names.length; p++) {
            x.person(30, names[p]);
            x.earn(p, 10000);
            x.buy(p, 50);
        }
        for (int step = 1; step <= 9; step++) {
            for (int p = 0; p < 3; p++) {
                x.borrow(p, 1, 3, 4);
                x.repay(p, 1);
            }
        }
        x.borrow(1, 300, 3, 4);
        Check.badState(x, "0 is of the house of 1", o -> o.borrow(0, 201, 3, 4));
        Check.due("2 is not of the house of 1", x.borrow(2, 201, 3, 4), 9500 + 201);
        Check.badState(x, "0 is of both houses", o -> o.borrow(0, 1, 3, 4));
        x.repay(2, 101);
        Check.badState(x, "a coin too much", o -> o.borrow(0, 101, 3, 4));
        Check.due("500 for the house", x.borrow(0, 100, 3, 4), 9500 + 100);
        x.repay(1, 300);
        Check.badState(x, "1 is of the house of 0", o -> o.borrow(1, 401, 3, 4));
        x.borrow(1, 300, 3, 4);
        x.repay(0, 100);
        x.die(1, 3);
        Check.due("the debt went to another house", x.borrow(0, 400, 3, 4), 9500 + 400);
        Check.badState(x, "one that owes in the house", o -> o.borrow(2, 1, 3, 4));
    }

    private static void repay() {
        Counted x = holders(4, 50, 30);
        Check.outOfIndex(x, "repay(4, 1)", o -> o.repay(4, 1));
        Check.outOfIndex(x, "repay(-1, 0)", o -> o.repay(-1, 0));
        Check.badArgument(x, "repay(0, 0)", o -> o.repay(0, 0));
        Check.badArgument(x, "repay(0, 10001)", o -> o.repay(0, 10001));
        Check.badState(x, "repay without a loan", o -> o.repay(0, 1));
        x.borrow(0, 50, 1, 2);
        x.earn(0, -70);
        Check.badState(x, "more than the purse has", o -> o.repay(0, 11));
        Check.badState(x, "all of it", o -> o.repay(0, 10000));
        Check.due("repay(0, 10)", x.repay(0, 10), 40);
        Check.due("the purse", x.of(0, 0), 0);
        Check.due("paid back so far", x.of(0, 3), 0);
        Check.due("cash()", x.cash(), 1960);
        x.earn(0, 40);
        Check.due("of that as much as is owed", x.repay(0, 10000), 0);
        Check.due("the purse", x.of(0, 0), 0);
        Check.due("paid back", x.of(0, 3), 1);
        Check.due("the truth", x.of(0, 4), 500);
        Check.due("cash()", x.cash(), 2000);
        Check.badState(x, "repay again", o -> o.repay(0, 1));
        x.borrow(1, 40, 2, 3);
        x.die(1, 0);
        Check.due("the heir pays back", x.repay(0, 40), 0);
        Check.due("and it counts for the heir", x.of(0, 3), 2);
        Check.due("not for the dead", x.of(1, 3), 0);
        Check.due("coins()", x.coins(), 0);
    }

    private static void monthGrows() {
        Counted x = holders(6, 50, 0);
        x.borrow(0, 1, 2, 3);
        x.borrow(1, 20, 2, 3);
        x.borrow(4, 21, 2, 3);
        x.borrow(5, 40, 2, 3);
        Check.due("a drought", x.month(true), 0);
        Check.due("loans rest", x.of(5, 2), 40);
        Check.due("a month", x.month(false), 0);
        Check.due("1 and a twentieth", x.of(0, 2), 2);
        Check.due("20 and a twentieth", x.of(1, 2), 21);
        Check.due("21 and a twentieth", x.of(4, 2), 23);
        Check.due("40 and a twentieth", x.of(5, 2), 42);
        Check.due("no debt, no growth", x.of(2, 2), 0);
        Check.due("cash does not grow", x.cash(), 3000 - 82);
        Check.due("coins()", x.coins(), 0);
    }

    private static void monthDefaults() {
        Counted x = holders(3, 50, 500);
        x.borrow(0, 50, 1, 2);
        x.repay(0, 50);
        x.borrow(0, 51, 1, 2);
        int debt = 51;
        for (int i = 0; i < 6; i++) {
            Check.due("a month", x.month(false), 0);
            Check.due("a drought", x.month(true), 0);
            debt += (debt + 19) / 20;
            Check.due("the debt", x.of(0, 2), debt);
        }
        debt += (debt + 19) / 20;
        Check.due("the debt is odd, so that the rest differs from half", debt % 2, 1);
        Check.due("older than six months", x.month(false), 1);
        Check.due("the first pays half", x.of(1, 0), 500 - debt / 2);
        Check.due("the second pays the rest", x.of(2, 0), 500 - (debt - debt / 2));
        Check.due("who borrowed pays nothing", x.of(0, 0), 551);
        Check.due("the loan is over", x.of(0, 2), 0);
        Check.due("none paid back so far", x.of(0, 3), 0);
        Check.due("the first's truth", x.of(1, 4), 500 + debt / 2);
        Check.due("the borrower's truth", x.of(0, 4), 500 - 51);
        Check.due("cash()", x.cash(), 1500 - 51 + debt);
        Check.due("coins()", x.coins(), 0);
        Check.due("the month behind", x.month(false), 0);
        Check.badState(x, "the steps begin anew", o -> o.borrow(0, 51, 1, 2));
        Check.due("a new loan is new", x.borrow(0, 50, 1, 2), 601);
        for (int i = 0; i < 6; i++) {
            Check.due("a month of the new loan", x.month(false), 0);
        }
        Check.due("the seventh", x.month(false), 1);
    }

    private static void vouchersPayAsFarAsTheyCan() {
        Counted x = holders(4, 50, 30);
        x.borrow(0, 50, 1, 2);
        x.earn(2, 100);
        for (int i = 0; i < 6; i++) {
            x.month(false);
        }
        Check.due("the seventh month", x.month(false), 1);
        Check.due("the first has only 30 of 37", x.of(1, 0), 0);
        Check.due("the second pays 37", x.of(2, 0), 130 - 37);
        Check.due("what lacks is lost", x.cash(), 2000 - 50 + 30 + 37);
        Check.due("the loan is over", x.of(0, 2), 0);
        Check.due("coins()", x.coins(), 0);
        x.borrow(0, 50, 2, 1);
        x.die(1, 3);
        for (int i = 0; i < 7; i++) {
            x.month(false);
        }
        Check.due("the heir of who vouched pays nothing", x.of(3, 0), 30);
        Check.due("the first pays half", x.of(2, 0), 130 - 37 - 37);
        Check.due("the dead has nothing", x.of(1, 4), 500 + 30);
    }

    /** 0 vouches for 1, and is vouched for: who comes first takes what the purse has. */
    private static void defaultsByRisingPeople() {
        Counted x = holders(4, 50, 40);
        x.borrow(1, 50, 2, 3);
        x.borrow(0, 40, 3, 2);
        for (int i = 0; i < 6; i++) {
            x.month(false);
        }
        Check.due("two defaults", x.month(false), 2);
        Check.due("2 is empty", x.of(2, 0), 0);
        Check.due("3 is empty", x.of(3, 0), 0);
        Check.due("no debts", x.of(0, 2) + x.of(1, 2), 0);
        Check.due("cash()", x.cash(), 2000 - 90 + 80);
        Check.due("coins()", x.coins(), 0);
    }

    private static void feast() {
        Counted x = holders(3, 10, 0);
        x.earn(0, 10);
        x.buy(0, 1);
        x.borrow(1, 50, 0, 2);
        x.month(false);
        x.earn(1, 3);
        x.repay(1, 53);
        Check.due("cash()", x.cash(), 313);
        Check.due("feast()", x.feast(), 10);
        Check.due("11 shares", x.of(0, 0), 110);
        Check.due("10 shares", x.of(1, 0), 100);
        Check.due("the rest stays", x.cash(), 3);
        Check.due("no shares", x.of(0, 1) + x.of(1, 1) + x.of(2, 1), 0);
        Check.due("the truth of 0", x.of(0, 4), 0);
        Check.due("the truth of 1", x.of(1, 4), 3);
        Check.badState(x, "no shares are left", Counted::feast);
        x.buy(0, 1);
        Check.due("the rest at the next feast", x.feast(), 13);
        Check.due("cash()", x.cash(), 0);
        Check.due("coins()", x.coins(), 0);
        feastOfNothing();
    }

    /** Shares stay when the cash was lent and lost; the feast gives 0 then. */
    private static void feastOfNothing() {
        Counted x = holders(3, 1, 0);
        x.borrow(0, 30, 1, 2);
        x.earn(0, -30);
        for (int i = 0; i < 7; i++) {
            x.month(false);
        }
        Check.due("cash()", x.cash(), 0);
        Check.due("feast()", x.feast(), 0);
        Check.due("no shares", x.of(0, 1), 0);
    }

    private static void feastRefusals() {
        Counted x = holders(3, 10, 0);
        x.borrow(2, 1, 0, 1);
        Check.badState(x, "somebody has a loan", Counted::feast);
        x.repay(2, 1);
        Check.due("feast()", x.feast(), 10);
        Check.badState(x, "no shares", Counted::feast);
    }
}
