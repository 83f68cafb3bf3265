/** Promises 16 to 22: note, audit, of, member, ofCircle, cash, coins. */
public final class AskedTest {
    private AskedTest() {
    }

    public static void main(String[] args) {
        note();
        audit();
        auditOfTheDead();
        of();
        houses();
        member();
        ofCircle();
        cashAndCoins();
        questionsChangeNothing();
        Check.end("AskedTest");
    }

    private static void note() {
        Counted x = new Counted();
        x.person(20, 1);
        x.person(20, 22);
        Check.outOfIndex(x, "note(3, 0, 0)", o -> o.note(3, 0, 0));
        Check.outOfIndex(x, "note(-1, 0, 0)", o -> o.note(-1, 0, 0));
        Check.outOfIndex(x, "note(0, 2, 0)", o -> o.note(0, 2, 0));
        Check.outOfIndex(x, "note(0, -1, 10001)", o -> o.note(0, -1, 10001));
        Check.outOfIndex(x, "note(3, 0, 10001)", o -> o.note(3, 0, 10001));
        Check.badArgument(x, "note(0, 0, 10001)", o -> o.note(0, 0, 10001));
        Check.badArgument(x, "note(0, 0, -10001)", o -> o.note(0, 0, -10001));
        Check.due("note(0, 0, 10000)", x.note(0, 0, 10000), 10000);
        Check.due("note(0, 0, 10000)", x.note(0, 0, 10000), 20000);
        Check.due("note(0, 0, -10000)", x.note(0, 0, -10000), 10000);
        Check.due("note(0, 0, 0)", x.note(0, 0, 0), 10000);
        Check.due("another person", x.note(0, 1, -3), -3);
        Check.due("another book", x.note(2, 0, 4), 4);
        Check.due("the third book", x.note(1, 0, 5), 5);
        Check.due("note moves no coins", x.of(0, 0), 0);
        x.die(1, 0);
        Check.due("note of the dead", x.note(0, 1, 1), -2);
    }

    private static void audit() {
        Counted x = new Counted();
        Check.outOfIndex(x, "audit(3)", o -> o.audit(3));
        Check.outOfIndex(x, "audit(-1)", o -> o.audit(-1));
        for (int p = 0; p < 3; p++) {
            x.person(20, p * 11111);
            x.earn(p, 100);
        }
        Check.due("nothing paid, nothing noted", x.audit(1), SusuRing.NONE);
        x.buy(1, 3);
        x.buy(2, 4);
        Check.due("the lowest person", x.audit(1), 1);
        x.note(1, 1, 30);
        Check.due("the next one", x.audit(1), 2);
        x.note(1, 2, 39);
        Check.due("still not what is true", x.audit(1), 2);
        x.note(1, 2, 1);
        Check.due("all is true", x.audit(1), SusuRing.NONE);
        Check.due("another book", x.audit(0), 1);
        x.note(1, 0, -1);
        Check.due("noted but not true", x.audit(1), 0);
    }

    private static void auditOfTheDead() {
        Counted x = new Counted();
        x.person(20, 0);
        x.person(20, 1);
        x.earn(0, 100);
        x.buy(0, 1);
        x.note(0, 0, 10);
        x.die(0, 1);
        Check.due("what is true does not go to heirs", x.audit(0), SusuRing.NONE);
        Check.due("nor is it forgotten", x.audit(1), 0);
        x.feast();
        Check.due("the heir got out", x.of(1, 4), -10);
        Check.due("the heir is not noted", x.audit(0), 1);
        x.note(0, 1, -10);
        Check.due("all is true", x.audit(0), SusuRing.NONE);
    }

    private static void of() {
        Counted x = new Counted();
        Check.outOfIndex(x, "of(0, 7)", o -> o.of(0, 7));
        x.person(20, 5);
        Check.outOfIndex(x, "of(-1, 0)", o -> o.of(-1, 0));
        Check.outOfIndex(x, "of(1, -1)", o -> o.of(1, -1));
        Check.badArgument(x, "of(0, -1)", o -> o.of(0, -1));
        Check.badArgument(x, "of(0, 7)", o -> o.of(0, 7));
        x.person(20, 11155);
        x.person(20, 22255);
        for (int p = 0; p < 3; p++) {
            x.earn(p, 400);
            x.buy(p, 10 + p);
        }
        x.borrow(0, 20, 1, 2);
        x.repay(0, 20);
        x.borrow(0, 30, 1, 2);
        int[] due = {330, 10, 30, 1, 70, 1, 1};
        for (int what = 0; what <= 6; what++) {
            Check.due("of(0, " + what + ")", x.of(0, what), due[what]);
        }
    }

    private static void houses() {
        Counted x = new Counted();
        int[] names = {0, 90000, 9, 900, 99, 0, 90001, 12345};
        int[] due = {5, 4, 4, 3, 2, 5, 2, 1};
        for (int name : names) {
            x.person(20, name);
        }
        for (int p = 0; p < names.length; p++) {
            Check.due("of(" + p + ", 6)", x.of(p, 6), due[p]);
        }
        x.die(0, 7);
        Check.due("the dead does not count", x.of(5, 6), 4);
        Check.due("the house of the dead, without the dead", x.of(0, 6), 4);
        x.die(7, 1);
        Check.due("an empty house", x.of(7, 6), 0);
        eachFigure();
    }

    private static void eachFigure() {
        Counted x = new Counted();
        x.person(20, 55555);
        for (int figure = 1; figure <= 10000; figure *= 10) {
            int p = x.person(20, 55555 + figure);
            Check.due("one figure differs", x.of(p, 6), 2);
            x.die(p, 0);
            int q = x.person(20, 55555 + figure + (figure == 10000 ? 1 : 10000));
            Check.due("two figures differ", x.of(q, 6), 1);
            x.die(q, 0);
        }
    }

    private static void member() {
        Counted x = new Counted();
        for (int p = 0; p < 3; p++) {
            x.person(20, p * 11111);
        }
        Check.outOfIndex(x, "member(0, 0, 0)", o -> o.member(0, 0, 0));
        x.circle(10, SusuRing.NEED);
        Check.outOfIndex(x, "member(-1, 0, 4)", o -> o.member(-1, 0, 4));
        Check.outOfIndex(x, "member(0, 3, -1)", o -> o.member(0, 3, -1));
        Check.badArgument(x, "member(0, 0, -1)", o -> o.member(0, 0, -1));
        Check.badArgument(x, "member(0, 0, 4)", o -> o.member(0, 0, 4));
        for (int what = 0; what <= 3; what++) {
            Check.due("no member", x.member(0, 0, what), SusuRing.NONE);
        }
        x.enter(0, 2);
        x.enter(0, 0);
        x.start(0, 0);
        x.earn(0, 9);
        x.meet(0, true);
        int[] due = {1, 0, 9, 1};
        for (int what = 0; what <= 3; what++) {
            Check.due("member(0, 0, " + what + ")", x.member(0, 0, what), due[what]);
        }
        Check.due("the turn of 2", x.member(0, 2, 1), 1);
        Check.due("the place of 2", x.member(0, 2, 3), 0);
    }

    private static void ofCircle() {
        Counted x = new Counted();
        for (int p = 0; p < 3; p++) {
            x.person(20 + p, p * 11111);
            x.earn(p, 100);
        }
        Check.outOfIndex(x, "ofCircle(0, 5)", o -> o.ofCircle(0, 5));
        x.circle(10, SusuRing.BID);
        x.circle(10, SusuRing.AGE);
        Check.outOfIndex(x, "ofCircle(2, 0)", o -> o.ofCircle(2, 0));
        Check.outOfIndex(x, "ofCircle(-1, -1)", o -> o.ofCircle(-1, -1));
        Check.badArgument(x, "ofCircle(0, -1)", o -> o.ofCircle(0, -1));
        Check.badArgument(x, "ofCircle(0, 5)", o -> o.ofCircle(0, 5));
        for (int p = 0; p < 3; p++) {
            x.enter(0, p);
            x.enter(1, p);
        }
        x.want(0, 1, 3, true);
        Check.due("nobody before the start", x.ofCircle(0, 4), SusuRing.NONE);
        Check.due("nobody before the start", x.ofCircle(1, 4), SusuRing.NONE);
        x.start(0, 0);
        x.start(1, 0);
        Check.due("the greatest bid", x.ofCircle(0, 4), 1);
        Check.due("the eldest", x.ofCircle(1, 4), 2);
        x.meet(0, false);
        int[] due = {1, 3, 1, 0, 0};
        for (int what = 0; what <= 4; what++) {
            Check.due("ofCircle(0, " + what + ")", x.ofCircle(0, what), due[what]);
        }
    }

    private static void cashAndCoins() {
        Counted x = new Counted();
        for (int p = 0; p < 3; p++) {
            x.person(20 + p, p * 11111);
            x.earn(p, 500);
            x.buy(p, 10);
        }
        Check.due("cash()", x.cash(), 300);
        x.circle(33, SusuRing.BID);
        for (int p = 0; p < 3; p++) {
            x.enter(0, p);
        }
        x.start(0, 0);
        x.want(0, 1, 7, true);
        x.meet(0, false);
        Check.due("the box", x.ofCircle(0, 0), 1);
        x.borrow(0, 50, 1, 2);
        Check.due("cash()", x.cash(), 250);
        x.month(false);
        x.repay(0, 53);
        Check.due("cash()", x.cash(), 303);
        x.earn(2, -77);
        x.die(1, 2);
        x.feast();
        Check.due("cash()", x.cash(), 3);
        Check.due("coins()", x.coins(), 0);
        Check.due("all coins", x.of(0, 0) + x.of(1, 0) + x.of(2, 0) + 1 + 3, 1500 - 77);
    }

    private static void questionsChangeNothing() {
        Counted x = new Counted();
        for (int p = 0; p < 3; p++) {
            x.person(20 + p, p);
            x.earn(p, 500);
            x.buy(p, 10);
        }
        x.circle(33, SusuRing.LOT);
        x.enter(0, 1);
        x.enter(0, 2);
        x.start(0, 1);
        x.meet(0, false);
        String before = Views.of(x);
        for (int p = 0; p < 3; p++) {
            int person = p;
            for (int i = 0; i <= 6; i++) {
                int what = i;
                x.act(y -> y.of(person, what));
            }
            for (int i = 0; i <= 3; i++) {
                int what = i;
                x.act(y -> y.member(0, person, what));
                x.act(y -> y.ofCircle(0, what + 1));
            }
            x.act(y -> y.audit(person));
        }
        x.act(SusuRing::cash);
        x.act(SusuRing::coins);
        Check.due("what is asked changes nothing", Views.of(x), before);
    }
}
