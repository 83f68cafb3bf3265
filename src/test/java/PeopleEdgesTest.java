/** Boundaries that "People", "Books" of the dead apart, and promises 1 to 3 name. */
public final class PeopleEdgesTest {
    private PeopleEdgesTest() {
    }

    public static void main(String[] args) {
        Edge.sentence("Begins without people and circles", PeopleEdgesTest::newObject);
        Edge.sentence("used for at most 512 calls", PeopleEdgesTest::all512Calls);
        Edge.sentence("numbered from 0, at most 16", PeopleEdgesTest::sixteenPeople);
        Edge.sentence("age, 1 to 120", PeopleEdgesTest::ages);
        Edge.sentence("name, 0 to 99999", PeopleEdgesTest::names);
        Edge.sentence("person throws, in the clause's order", PeopleEdgesTest::personInOrder);
        Edge.sentence("a purse, 0 at first", PeopleEdgesTest::emptyPurse);
        Edge.sentence("of one house, if their names differ in at most one figure", PeopleEdgesTest::oneFigure);
        Edge.sentence("five figures, with zeros ahead", PeopleEdgesTest::zerosAhead);
        Edge.sentence("how many living people the house has", PeopleEdgesTest::houseSizes);
        Edge.sentence("Who is dead takes part in nothing any more", PeopleEdgesTest::deadTakePartInNothing);
        Edge.sentence("earn: there is no such person", PeopleEdgesTest::earnOfNobody);
        Edge.sentence("earn: amount -10000 to 10000", PeopleEdgesTest::earnAmounts);
        Edge.sentence("earn: the purse has not so much", PeopleEdgesTest::spendAll);
        Edge.sentence("earn: would be above 10000000", PeopleEdgesTest::fullPurse);
        Edge.sentence("earn throws, in the clause's order", PeopleEdgesTest::earnInOrder);
        Check.end("PeopleEdgesTest");
    }

    private static void newObject() {
        Edge.index("no people: of(0, 0)", Counted::new, x -> x.of(0, 0));
        Edge.index("no people: earn(0, 1)", Counted::new, x -> x.earn(0, 1));
        Edge.index("no people: die(0, 1)", Counted::new, x -> x.die(0, 1));
        Edge.index("no people: buy(0, 1)", Counted::new, x -> x.buy(0, 1));
        Edge.index("no people: borrow(0, 1, 1, 2)", Counted::new, x -> x.borrow(0, 1, 1, 2));
        Edge.index("no people: repay(0, 1)", Counted::new, x -> x.repay(0, 1));
        Edge.index("no people: note(0, 0, 1)", Counted::new, x -> x.note(0, 0, 1));
        Edge.index("no circles: enter(0, 0)", Counted::new, x -> x.enter(0, 0));
        Edge.index("no circles: start(0, 0)", Counted::new, x -> x.start(0, 0));
        Edge.index("no circles: want(0, 0, 1, true)", Counted::new, x -> x.want(0, 0, 1, true));
        Edge.index("no circles: meet(0, false)", Counted::new, x -> x.meet(0, false));
        Edge.index("no circles: leave(0, 0)", Counted::new, x -> x.leave(0, 0));
        Edge.index("no circles: member(0, 0, 0)", Counted::new, x -> x.member(0, 0, 0));
        Edge.index("no circles: ofCircle(0, 0)", Counted::new, x -> x.ofCircle(0, 0));
        Edge.state("no shares: feast()", Counted::new, Counted::feast);
        Counted x = new Counted();
        Edge.due("month(false)", x.month(false), 0);
        Edge.due("month(true)", x.month(true), 0);
        Edge.due("cash()", x.cash(), 0);
        Edge.due("coins()", x.coins(), 0);
        for (int book = 0; book <= 2; book++) {
            Edge.due("audit(" + book + ")", x.audit(book), SusuRing.NONE);
        }
        Edge.due("person", x.person(1, 0), 0);
        Edge.index("another object has none", Counted::new, y -> y.of(0, 0));
    }

    private static void all512Calls() {
        Counted x = new Counted();
        x.person(30, 0);
        for (int call = 2; call <= 511; call++) {
            Edge.due("call " + call, x.earn(0, 10000), (call - 1) * 10000);
        }
        Edge.due("the 512th call", x.of(0, 0), 5100000);
    }

    private static void sixteenPeople() {
        Edge.due("the first", new Counted().person(30, 0), 0);
        Edge.due("the 16th", Village.people(15, 0).person(30, 0), 15);
        Edge.state("a 17th", () -> Village.people(16, 0), x -> x.person(30, 0));
        Edge.state("a 17th for one dead", () -> Edge.with(Village.people(16, 0), x -> x.die(15, 0)),
            x -> x.person(30, 0));
    }

    private static void ages() {
        Edge.argumentOutside("person(age, 5)", Counted::new, 1, 120, (x, age) -> x.person(age, 5));
        Edge.due("person(1, 5)", new Counted().person(1, 5), 0);
        Edge.due("person(120, 5)", new Counted().person(120, 5), 0);
    }

    private static void names() {
        Edge.argumentOutside("person(30, name)", Counted::new, 0, 99999, (x, name) -> x.person(30, name));
        Edge.due("person(30, 0)", new Counted().person(30, 0), 0);
        Edge.due("person(30, 99999)", new Counted().person(30, 99999), 0);
    }

    private static void personInOrder() {
        Edge.argument("age 0, and a 17th", () -> Village.people(16, 0), x -> x.person(0, 5));
        Edge.argument("age 121, and a 17th", () -> Village.people(16, 0), x -> x.person(121, 5));
        Edge.argument("name -1, and a 17th", () -> Village.people(16, 0), x -> x.person(30, -1));
        Edge.argument("name 100000, and a 17th", () -> Village.people(16, 0), x -> x.person(30, 100000));
    }

    private static void emptyPurse() {
        for (int person = 0; person < 16; person++) {
            Counted x = Village.people(16, 0);
            for (int what = 0; what <= 4; what++) {
                Edge.due("of(" + person + ", " + what + ")", x.of(person, what), 0);
            }
            Edge.due("of(" + person + ", 5)", x.of(person, 5), 1);
            Edge.due("of(" + person + ", 6)", x.of(person, 6), 1);
        }
    }

    private static int houseOfTwo(int one, int other) {
        Counted x = new Counted();
        x.person(30, one);
        x.person(30, other);
        Edge.due("as the other sees it", x.of(1, 6), x.of(0, 6));
        return x.of(0, 6);
    }

    private static void oneFigure() {
        Edge.due("no figure differs", houseOfTwo(54321, 54321), 2);
        int[] places = {1, 10, 100, 1000, 10000};
        for (int one : places) {
            Edge.due("one figure differs, at " + one, houseOfTwo(54321, 54321 + 3 * one), 2);
            for (int other : places) {
                if (other != one) {
                    Edge.due("two figures differ", houseOfTwo(54321, 54321 + 3 * one + other), 1);
                }
            }
        }
        Edge.due("all but one differ", houseOfTwo(12345, 51235), 1);
        Edge.due("all figures differ", houseOfTwo(12345, 23456), 1);
        Edge.due("two figures change places", houseOfTwo(12345, 12354), 1);
    }

    private static void zerosAhead() {
        Edge.due("00000 and 00009", houseOfTwo(0, 9), 2);
        Edge.due("00000 and 90000", houseOfTwo(0, 90000), 2);
        Edge.due("00000 and 00010", houseOfTwo(0, 10), 2);
        Edge.due("00000 and 00011", houseOfTwo(0, 11), 1);
        Edge.due("00009 and 00010, neighbours as numbers", houseOfTwo(9, 10), 1);
        Edge.due("00001 and 00010", houseOfTwo(1, 10), 1);
        Edge.due("00012 and 01200", houseOfTwo(12, 1200), 1);
        Edge.due("00000 and 99999", houseOfTwo(0, 99999), 1);
        Edge.due("99999 and 09999", houseOfTwo(99999, 9999), 2);
    }

    private static void houseSizes() {
        Counted x = new Counted();
        for (int p = 0; p < 16; p++) {
            x.person(30, p % 10);
        }
        Edge.due("all 16", x.of(15, 6), 16);
        for (int p = 0; p < 15; p++) {
            x.die(p, 15);
            Edge.due("all but the dead", x.of(15, 6), 15 - p);
            Edge.due("for the dead, too", x.of(p, 6), 15 - p);
        }
        Edge.due("the last one with oneself", x.of(15, 6), 1);
        Counted y = Edge.with(Village.people(2, 0), z -> z.die(0, 1));
        Edge.due("a house of one dead", y.of(0, 6), 0);
        Edge.due("the heir of another house", y.of(1, 6), 1);
        Counted chain = new Counted();
        chain.person(30, 1);
        chain.person(30, 0);
        chain.person(30, 10);
        Edge.due("likeness does not go on to a third", chain.of(0, 6), 2);
        Edge.due("the one between", chain.of(1, 6), 3);
    }

    /** 3 is dead; the others could do all that is refused here. */
    private static Counted withOneDead() {
        Counted x = Village.people(4, 500);
        x.circle(10, SusuRing.NEED);
        x.enter(0, 0);
        x.enter(0, 3);
        x.circle(10, SusuRing.NEED);
        for (int p = 0; p < 3; p++) {
            x.buy(p, 10);
        }
        x.die(3, 0);
        return x;
    }

    private static void deadTakePartInNothing() {
        Edge.state("earn", PeopleEdgesTest::withOneDead, x -> x.earn(3, 1));
        Edge.state("earn nothing", PeopleEdgesTest::withOneDead, x -> x.earn(3, 0));
        Edge.state("die", PeopleEdgesTest::withOneDead, x -> x.die(3, 1));
        Edge.state("inherit", PeopleEdgesTest::withOneDead, x -> x.die(1, 3));
        Edge.state("enter", PeopleEdgesTest::withOneDead, x -> x.enter(1, 3));
        Edge.state("want a bid", PeopleEdgesTest::withOneDead, x -> x.want(0, 3, 1, true));
        Edge.state("want a need", PeopleEdgesTest::withOneDead, x -> x.want(0, 3, 1, false));
        Edge.state("leave", PeopleEdgesTest::withOneDead, x -> x.leave(0, 3));
        Edge.state("buy", PeopleEdgesTest::withOneDead, x -> x.buy(3, 1));
        Edge.state("borrow", PeopleEdgesTest::withOneDead, x -> x.borrow(3, 1, 0, 1));
        Edge.state("vouch first", PeopleEdgesTest::withOneDead, x -> x.borrow(0, 1, 3, 1));
        Edge.state("vouch second", PeopleEdgesTest::withOneDead, x -> x.borrow(0, 1, 1, 3));
        Edge.state("repay", PeopleEdgesTest::withOneDead, x -> x.repay(3, 1));
        Edge.due("has no place", withOneDead().member(0, 3, 3), SusuRing.NONE);
        Edge.due("does not live", withOneDead().of(3, 5), 0);
        Counted x = withOneDead();
        Edge.due("feast()", x.feast(), 10);
        Edge.due("gets nothing at a feast", x.of(3, 0), 0);
    }

    private static void earnOfNobody() {
        Edge.indexOutside("earn(person, 1) of one", () -> Village.people(1, 0), 0, (x, p) -> x.earn(p, 1));
        Edge.indexOutside("earn(person, 1) of 16", () -> Village.people(16, 0), 15, (x, p) -> x.earn(p, 1));
    }

    private static void earnAmounts() {
        Edge.argumentOutside("earn(0, amount)", () -> Village.people(1, 10000), -10000, 10000,
            (x, amount) -> x.earn(0, amount));
        Edge.due("earn(0, 10000)", Village.people(1, 0).earn(0, 10000), 10000);
        Edge.due("earn(0, -10000)", Village.people(1, 10000).earn(0, -10000), 0);
        Edge.due("earn(0, 0)", Village.people(1, 7).earn(0, 0), 7);
        Edge.due("earn(0, 0) of an empty purse", Village.people(1, 0).earn(0, 0), 0);
    }

    private static void spendAll() {
        Edge.due("all that it has", Village.people(1, 7).earn(0, -7), 0);
        Edge.due("all but one", Village.people(1, 7).earn(0, -6), 1);
        Edge.state("one more", () -> Village.people(1, 7), x -> x.earn(0, -8));
        Edge.state("one of an empty purse", () -> Village.people(1, 0), x -> x.earn(0, -1));
        Edge.state("10000 of 9999", () -> Village.people(1, 9999), x -> x.earn(0, -10000));
    }

    /**
     * No purse can be full within 512 calls, and what later calls answer is free. What they throw is not, for a
     * call throws exactly what and where the document says (LANGUAGE.md, 6): that alone is looked at here.
     */
    private static void fullPurse() {
        String state = IllegalStateException.class.getName();
        checkThrown("10000000", 9999999, 1, "nothing");
        checkThrown("10000000 by 10000", 9990000, 10000, "nothing");
        checkThrown("10000001", 10000000, 1, state);
        checkThrown("10000001 by 10000", 9990001, 10000, state);
        checkThrown("nothing more", 10000000, 0, "nothing");
        checkThrown("less", 10000000, -1, "nothing");
    }

    private static void checkThrown(String call, int purse, int amount, String due) {
        SusuRing x = new SusuRing();
        x.person(30, 0);
        for (int left = purse; left > 0; left -= 10000) {
            x.earn(0, Math.min(left, 10000));
        }
        Check.due("earn: would be above 10000000: " + call, Check.thrownBy(() -> x.earn(0, amount)), due);
    }

    private static void earnInOrder() {
        Edge.index("nobody, and 10001", () -> Village.people(1, 0), x -> x.earn(1, 10001));
        Edge.index("nobody, and -10001", () -> Village.people(1, 0), x -> x.earn(-1, -10001));
        Edge.argument("the dead, and 10001", PeopleEdgesTest::withOneDead, x -> x.earn(3, 10001));
        Edge.argument("-10001 of an empty purse", () -> Village.people(1, 0), x -> x.earn(0, -10001));
    }
}
