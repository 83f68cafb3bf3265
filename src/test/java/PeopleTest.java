/** Promises 1 to 4: a new object, person, earn, die. */
public final class PeopleTest {
    private PeopleTest() {
    }

    public static void main(String[] args) {
        newObject();
        person();
        earn();
        dieRefusals();
        dieWithPurseAndShares();
        dieWithLoan();
        dieInCircles();
        dieEndsRound();
        theDeadTakePartInNothing();
        Check.end("PeopleTest");
    }

    private static void newObject() {
        Counted x = new Counted();
        Check.due("cash()", x.cash(), 0);
        Check.due("coins()", x.coins(), 0);
        for (int book = 0; book <= 2; book++) {
            Check.due("audit of an empty object", x.audit(book), SusuRing.NONE);
        }
        Check.outOfIndex(x, "of(0, 0)", o -> o.of(0, 0));
        Check.outOfIndex(x, "ofCircle(0, 0)", o -> o.ofCircle(0, 0));
        Check.due("month(false)", x.month(false), 0);
        Check.badState(x, "feast()", Counted::feast);
        Counted y = new Counted();
        y.person(20, 1);
        Check.outOfIndex(x, "another object's person", o -> o.of(0, 0));
    }

    private static void person() {
        Counted x = new Counted();
        Check.badArgument(x, "person(0, 5)", o -> o.person(0, 5));
        Check.badArgument(x, "person(-1, 5)", o -> o.person(-1, 5));
        Check.badArgument(x, "person(121, 5)", o -> o.person(121, 5));
        Check.badArgument(x, "person(5, -1)", o -> o.person(5, -1));
        Check.badArgument(x, "person(5, 100000)", o -> o.person(5, 100000));
        Check.badArgument(x, "person(MIN, MAX)", o -> o.person(Integer.MIN_VALUE, Integer.MAX_VALUE));
        Check.due("person(1, 0)", x.person(1, 0), 0);
        Check.due("person(120, 99999)", x.person(120, 99999), 1);
        for (int i = 2; i < 16; i++) {
            Check.due("person " + i, x.person(30, i), i);
        }
        for (int what = 0; what <= 4; what++) {
            Check.due("of(15, " + what + ")", x.of(15, what), 0);
        }
        Check.due("of(15, 5)", x.of(15, 5), 1);
        Check.badState(x, "a 17th person", o -> o.person(30, 16));
        Check.badArgument(x, "a 17th person of age 0", o -> o.person(0, 16));
        x.die(3, 4);
        Check.badState(x, "the dead still count", o -> o.person(30, 16));
    }

    private static void earn() {
        Counted x = new Counted();
        x.person(20, 1);
        x.person(20, 2);
        Check.due("earn(0, 10000)", x.earn(0, 10000), 10000);
        Check.due("earn(0, 0)", x.earn(0, 0), 10000);
        Check.due("earn(0, -9999)", x.earn(0, -9999), 1);
        Check.badState(x, "earn(0, -2)", o -> o.earn(0, -2));
        Check.due("earn(0, -1)", x.earn(0, -1), 0);
        Check.due("of(1, 0)", x.of(1, 0), 0);
        Check.due("of(0, 4)", x.of(0, 4), 0);
        Check.outOfIndex(x, "earn(-1, 1)", o -> o.earn(-1, 1));
        Check.outOfIndex(x, "earn(2, 1)", o -> o.earn(2, 1));
        Check.outOfIndex(x, "earn(2, 10001)", o -> o.earn(2, 10001));
        Check.badArgument(x, "earn(0, 10001)", o -> o.earn(0, 10001));
        Check.badArgument(x, "earn(0, -10001)", o -> o.earn(0, -10001));
        Check.badArgument(x, "earn(0, MIN)", o -> o.earn(0, Integer.MIN_VALUE));
        x.die(1, 0);
        Check.badState(x, "earn of the dead", o -> o.earn(1, 0));
        Check.badArgument(x, "earn(1, 10001) of the dead", o -> o.earn(1, 10001));
    }

    private static void dieRefusals() {
        Counted x = new Counted();
        x.person(20, 1);
        x.person(20, 2);
        x.person(20, 3);
        Check.outOfIndex(x, "die(3, 0)", o -> o.die(3, 0));
        Check.outOfIndex(x, "die(0, 3)", o -> o.die(0, 3));
        Check.outOfIndex(x, "die(-1, -1)", o -> o.die(-1, -1));
        Check.badArgument(x, "die(1, 1)", o -> o.die(1, 1));
        x.die(1, 0);
        Check.badState(x, "die(1, 0) again", o -> o.die(1, 0));
        Check.badState(x, "die(0, 1) to the dead", o -> o.die(0, 1));
        Check.badArgument(x, "die(1, 1) of the dead", o -> o.die(1, 1));
        x.earn(0, 1000);
        x.earn(2, 1000);
        x.buy(0, 50);
        x.buy(2, 51);
        Check.badState(x, "die(0, 2) with 101 shares", o -> o.die(0, 2));
    }

    private static void dieWithPurseAndShares() {
        Counted x = new Counted();
        x.person(20, 1);
        x.person(20, 2);
        x.earn(0, 1000);
        x.earn(1, 1000);
        x.buy(0, 50);
        x.buy(1, 50);
        Check.due("die(0, 1) with 100 shares", x.die(0, 1), 0);
        Check.due("the heir's purse", x.of(1, 0), 1000);
        Check.due("the heir's shares", x.of(1, 1), 100);
        Check.due("the heir's truth", x.of(1, 4), 500);
        Check.due("the dead's purse", x.of(0, 0), 0);
        Check.due("the dead's shares", x.of(0, 1), 0);
        Check.due("the dead's truth", x.of(0, 4), 500);
        Check.due("the dead lives", x.of(0, 5), 0);
        Check.due("the heir lives", x.of(1, 5), 1);
        Check.due("the house of the dead", x.of(0, 6), 1);
        Check.due("the house of the heir", x.of(1, 6), 1);
        Check.due("coins()", x.coins(), 0);
    }

    /** Four with shares, of four houses. */
    private static Counted fourWithShares() {
        Counted x = new Counted();
        for (int p = 0; p < 4; p++) {
            x.person(30, p * 11111);
            x.earn(p, 1000);
            x.buy(p, 20);
        }
        return x;
    }

    private static void dieWithLoan() {
        Counted x = fourWithShares();
        x.borrow(0, 50, 1, 2);
        x.repay(0, 50);
        x.borrow(0, 100, 1, 2);
        x.month(false);
        x.month(false);
        x.month(false);
        Check.due("the debt", x.of(0, 2), 117);
        Check.due("die(0, 3)", x.die(0, 3), 0);
        Check.due("the dead owes", x.of(0, 2), 0);
        Check.due("the heir owes", x.of(3, 2), 117);
        Check.due("what the dead paid back stays", x.of(0, 3), 1);
        Check.due("what the heir paid back", x.of(3, 3), 0);
        x.borrow(1, 50, 2, 3);
        Check.due("die(1, 3) adds the debt", x.die(1, 3), 0);
        Check.due("the heir owes both", x.of(3, 2), 167);
        Check.due("month 4", x.month(false), 0);
        Check.due("month 5", x.month(false), 0);
        Check.due("month 6", x.month(false), 0);
        int purse = x.of(2, 0);
        int cash = x.cash();
        Check.due("month 7 of the heir's loan", x.month(false), 1);
        int debt = 167;
        for (int i = 0; i < 4; i++) {
            debt += (debt + 19) / 20;
        }
        int rest = debt - debt / 2;
        Check.due("the dead voucher pays nothing, the second the rest", x.of(2, 0), purse - rest);
        Check.due("the fund got the rest", x.cash(), cash + rest);
        Check.due("coins()", x.coins(), 0);
        heirOfOwnVoucher();
    }

    /** Who vouched may become the heir, and pays the own half then. */
    private static void heirOfOwnVoucher() {
        Counted x = fourWithShares();
        x.borrow(0, 50, 1, 2);
        x.die(0, 1);
        for (int i = 0; i < 6; i++) {
            Check.due("a month", x.month(false), 0);
        }
        int purse = x.of(1, 0);
        Check.due("month 7", x.month(false), 1);
        Check.due("the heir pays half as the first voucher", x.of(1, 0), purse - 37);
        Check.due("the heir's truth", x.of(1, 4), 200 + 37);
        Check.due("repaying is no longer due", x.of(1, 2), 0);
    }

    private static Counted circleOfThree(int sum, int way) {
        Counted x = new Counted();
        for (int p = 0; p < 4; p++) {
            x.person(50 - p, p * 11111);
            x.earn(p, 1000);
        }
        x.circle(sum, way);
        for (int p = 0; p < 3; p++) {
            x.enter(0, p);
        }
        return x;
    }

    private static void dieInCircles() {
        Counted x = circleOfThree(100, SusuRing.NEED);
        x.circle(10, SusuRing.AGE);
        x.enter(1, 3);
        x.enter(1, 1);
        x.circle(10, SusuRing.LOT);
        x.enter(2, 0);
        x.start(0, 0);
        x.want(0, 1, 7, false);
        x.earn(1, -960);
        Check.due("meet(0, false)", x.meet(0, false), 1);
        Check.due("arrears", x.member(0, 1, 0), 70);
        x.want(0, 2, 9, false);
        Check.due("die(1, 3) has a place in one circle", x.die(1, 3), 1);
        Check.due("the dead's place", x.member(0, 1, 3), SusuRing.NONE);
        Check.due("the heir's place", x.member(0, 3, 3), 1);
        Check.due("the heir's arrears", x.member(0, 3, 0), 70);
        Check.due("the heir's turn", x.member(0, 3, 1), 1);
        Check.due("the heir's paid in", x.member(0, 3, 2), 40);
        Check.due("the heir's need", x.want(0, 3, 8, false), 7);
        Check.due("members of the circle that has not started", x.ofCircle(1, 1), 1);
        Check.due("the heir's old place", x.member(1, 3, 3), 0);
        Check.due("no place where the dead had none", x.member(2, 3, 3), SusuRing.NONE);
        Check.due("the truth stays", x.of(3, 4), 0);
        Check.due("the dead's truth", x.of(1, 4), 40 - 240);
        Check.due("coins()", x.coins(), 0);
        dieInOrder();
        dieWithArrearsBothWays();
    }

    private static void dieInOrder() {
        Counted x = circleOfThree(10, SusuRing.AGE);
        Check.due("start(0, 0)", x.start(0, 0), 0);
        x.want(0, 0, 5, true);
        Check.due("die(0, 3)", x.die(0, 3), 1);
        Check.due("the heir has the place in the order", x.ofCircle(0, 4), 3);
        Check.due("the heir's bid", x.want(0, 3, 5, true), 5);
        Check.due("meet", x.meet(0, false), 3);
        Check.due("meet", x.meet(0, false), 1);
        Check.due("die(3, 2) takes the place away", x.die(3, 2), 0);
        Check.due("members", x.ofCircle(0, 1), 2);
        Check.due("the one left without a turn", x.ofCircle(0, 4), 2);
    }

    private static void dieWithArrearsBothWays() {
        Counted x = circleOfThree(100, SusuRing.AGE);
        x.start(0, 0);
        x.earn(1, -1000);
        x.earn(2, -980);
        x.meet(0, false);
        Check.due("arrears of 1", x.member(0, 1, 0), 110);
        Check.due("arrears of 2", x.member(0, 2, 0), 90);
        Check.due("die(2, 1)", x.die(2, 1), 0);
        Check.due("arrears of both", x.member(0, 1, 0), 200);
        Check.due("what the heir paid in", x.member(0, 1, 2), 0);
        Check.due("the place", x.member(0, 1, 3), 1);
        Check.due("the box", x.ofCircle(0, 0), 0);
        Check.due("members", x.ofCircle(0, 1), 2);
    }

    private static void dieEndsRound() {
        Counted x = circleOfThree(10, SusuRing.AGE);
        x.start(0, 0);
        x.meet(0, false);
        x.meet(0, false);
        Check.due("rounds", x.ofCircle(0, 3), 0);
        Check.due("die(2, 0)", x.die(2, 0), 0);
        Check.due("rounds", x.ofCircle(0, 3), 1);
        Check.due("turn of 0", x.member(0, 0, 1), 0);
        Check.due("turn of 1", x.member(0, 1, 1), 0);
        Check.due("paid in by 0", x.member(0, 0, 2), 0);
        Check.due("next", x.ofCircle(0, 4), 0);
    }

    private static void theDeadTakePartInNothing() {
        Counted x = fourWithShares();
        x.circle(10, SusuRing.LOT);
        x.enter(0, 0);
        x.die(0, 1);
        Check.badState(x, "earn", o -> o.earn(0, 1));
        Check.badState(x, "enter", o -> o.enter(0, 0));
        Check.badState(x, "want", o -> o.want(0, 0, 1, true));
        Check.badState(x, "leave", o -> o.leave(0, 0));
        Check.badState(x, "buy", o -> o.buy(0, 1));
        Check.badState(x, "borrow", o -> o.borrow(0, 1, 1, 2));
        Check.badState(x, "vouch first", o -> o.borrow(1, 1, 0, 2));
        Check.badState(x, "vouch second", o -> o.borrow(1, 1, 2, 0));
        Check.badState(x, "repay", o -> o.repay(0, 1));
    }
}
