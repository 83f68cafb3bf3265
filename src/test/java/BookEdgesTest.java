/** Boundaries that "Books", "Exceptions" and promises 16 to 22 name: notes, audits, and what is asked. */
public final class BookEdgesTest {
    private BookEdgesTest() {
    }

    public static void main(String[] args) {
        Edge.sentence("note: there is no such book or person", BookEdgesTest::noteNowhere);
        Edge.sentence("note: amount -10000 to 10000", BookEdgesTest::noteAmounts);
        Edge.sentence("Returns what the book tells of the person then", BookEdgesTest::noteAnswers);
        Edge.sentence("note throws, in the clause's order", BookEdgesTest::noteInOrder);
        Edge.sentence("audit: there is no such book", BookEdgesTest::auditNowhere);
        Edge.sentence("the lowest person; NONE if there is none", BookEdgesTest::lowestPerson);
        Edge.sentence("of whom it does not tell what is true", BookEdgesTest::whatIsTrue);
        Edge.sentence("all that was paid, less all that was got out", BookEdgesTest::paidLessGot);
        Edge.sentence("by vouching too", BookEdgesTest::paidByVouching);
        Edge.sentence("since ever", BookEdgesTest::sinceEver);
        Edge.sentence("of: there is no such person", BookEdgesTest::ofNobody);
        Edge.sentence("of: what is out of range", BookEdgesTest::ofRange);
        Edge.sentence("member: there is no such circle or person", BookEdgesTest::memberNowhere);
        Edge.sentence("member: what is out of range", BookEdgesTest::memberRange);
        Edge.sentence("NONE if the person is no member", BookEdgesTest::noMember);
        Edge.sentence("ofCircle: there is no such circle", BookEdgesTest::ofCircleNowhere);
        Edge.sentence("ofCircle: what is out of range", BookEdgesTest::ofCircleRange);
        Edge.sentence("NONE before it started or without members", BookEdgesTest::whoWouldHaveTheTurn);
        Edge.sentence("Returns the cash of the fund", BookEdgesTest::cash);
        Edge.sentence("coins: it is 0", BookEdgesTest::coins);
        Edge.sentence("Questions change nothing", BookEdgesTest::questions);
        Edge.sentence("The constants", BookEdgesTest::constants);
        Check.end("BookEdgesTest");
    }

    private static Counted two() {
        return Village.people(2, 100);
    }

    private static void noteNowhere() {
        Edge.indexOutside("note(book, 0, 5)", BookEdgesTest::two, 2, (x, book) -> x.note(book, 0, 5));
        Edge.indexOutside("note(0, person, 5) of 2", BookEdgesTest::two, 1, (x, p) -> x.note(0, p, 5));
        Edge.indexOutside("note(2, person, 5) of 16", () -> Village.people(16, 0), 15, (x, p) -> x.note(2, p, 5));
        Edge.index("of none", Counted::new, x -> x.note(0, 0, 5));
        Edge.due("note(2, 15, 5)", Village.people(16, 0).note(2, 15, 5), 5);
    }

    private static void noteAmounts() {
        for (int b = 0; b <= 2; b++) {
            int book = b;
            Edge.argumentOutside("note(" + book + ", 0, amount)", BookEdgesTest::two, -10000, 10000,
                (x, amount) -> x.note(book, 0, amount));
            Edge.due("10000", two().note(book, 0, 10000), 10000);
            Edge.due("-10000", two().note(book, 0, -10000), -10000);
            Edge.due("0", two().note(book, 0, 0), 0);
        }
    }

    private static void noteAnswers() {
        Counted x = two();
        for (int time = 1; time <= 100; time++) {
            Edge.due("notes add up", x.note(1, 0, 10000), 10000 * time);
            Edge.due("below 0, too", x.note(1, 1, -10000), -10000 * time);
        }
        Edge.due("another book", x.note(0, 0, 0), 0);
        Edge.due("another book", x.note(2, 1, 0), 0);
        Edge.due("to 0 again", Edge.with(two(), y -> y.note(0, 0, 7)).note(0, 0, -7), 0);
        Edge.due("of the dead", Edge.with(two(), y -> y.die(0, 1)).note(0, 0, 7), 7);
        Counted z = two();
        z.note(0, 0, 7);
        z.die(0, 1);
        Edge.due("what is noted does not go to heirs", z.note(0, 1, 0), 0);
        Edge.due("it stays", z.note(0, 0, 0), 7);
    }

    private static void noteInOrder() {
        Edge.index("no book, and 10001", BookEdgesTest::two, x -> x.note(3, 0, 10001));
        Edge.index("no book, and -10001", BookEdgesTest::two, x -> x.note(-1, 0, -10001));
        Edge.index("nobody, and 10001", BookEdgesTest::two, x -> x.note(0, 2, 10001));
        Edge.index("no book, and nobody", BookEdgesTest::two, x -> x.note(3, 2, 5));
    }

    private static void auditNowhere() {
        Edge.indexOutside("audit(book)", BookEdgesTest::two, 2, (x, book) -> x.audit(book));
        Edge.indexOutside("audit(book) without people", Counted::new, 2, (x, book) -> x.audit(book));
    }

    private static void lowestPerson() {
        for (int book = 0; book <= 2; book++) {
            Edge.due("no people", new Counted().audit(book), SusuRing.NONE);
            Edge.due("16 people", Village.people(16, 5).audit(book), SusuRing.NONE);
            Counted x = Village.holders(16, 1, 0);
            for (int p = 0; p < 16; p++) {
                Edge.due("the lowest", x.audit(book), p);
                x.note(book, p, 10);
            }
            Edge.due("none is left", x.audit(book), SusuRing.NONE);
            x.note(book, 15, 1);
            Edge.due("the last one", x.audit(book), 15);
            x.note(book, 0, -1);
            Edge.due("the first one", x.audit(book), 0);
        }
    }

    private static void whatIsTrue() {
        int[] notes = {9, 10, 11, -10};
        for (int note : notes) {
            Counted x = Village.holders(1, 1, 0);
            x.note(1, 0, note);
            Edge.due("10 is true, noted is " + note, x.audit(1), note == 10 ? SusuRing.NONE : 0);
            Edge.due("another book", x.audit(2), 0);
        }
        Counted y = Village.started(2, 10, 10, SusuRing.AGE);
        y.meet(0, false);
        y.note(0, 0, -10);
        Edge.due("below 0", y.audit(0), 1);
        y.note(0, 1, 10);
        Edge.due("and above", y.audit(0), SusuRing.NONE);
    }

    private static void paidLessGot() {
        Counted x = Village.people(3, 1000);
        Edge.due("earned is not paid", x.of(0, 4), 0);
        x.buy(0, 10);
        x.buy(1, 10);
        x.buy(2, 10);
        Edge.due("shares", x.of(0, 4), 100);
        x.borrow(0, 40, 1, 2);
        Edge.due("a loan", x.of(0, 4), 60);
        x.repay(0, 15);
        Edge.due("a part paid back", x.of(0, 4), 75);
        x.repay(0, 10000);
        Edge.due("all paid back", x.of(0, 4), 100);
        x.circle(30, SusuRing.BID);
        Village.enterAll(x, 0, 3);
        x.start(0, 0);
        x.want(0, 1, 10, true);
        x.meet(0, false);
        Edge.due("paid in 30, got 5 of a discount", x.of(0, 4), 125);
        Edge.due("paid in 30, got the pot less the discount", x.of(1, 4), 100 + 30 - 80);
        x.feast();
        Edge.due("a feast", x.of(0, 4), 25);
        Counted y = Edge.with(Village.started(3, 100, 10, SusuRing.BID), z -> {
            z.want(0, 0, 3, true);
            z.meet(0, false);
            z.leave(0, 1);
        });
        Edge.due("left with one coin from the box", y.of(1, 4), 10 - 1 - 1);
    }

    private static void paidByVouching() {
        Counted x = Village.holders(3, 10, 100);
        x.borrow(0, 49, 1, 2);
        Village.months(x, 7);
        Edge.due("the first", x.of(1, 4), 100 + 36);
        Edge.due("the second", x.of(2, 4), 100 + 37);
        Edge.due("who borrowed", x.of(0, 4), 100 - 49);
        x.note(2, 0, 51);
        x.note(2, 1, 136);
        x.note(2, 2, 137);
        Edge.due("a book that tells so", x.audit(2), SusuRing.NONE);
    }

    private static void sinceEver() {
        Counted x = Village.people(2, 30);
        for (int year = 1; year <= 3; year++) {
            x.buy(0, 2);
            x.buy(1, 1);
            x.feast();
            Edge.due("behind a feast", x.of(0, 4), 0);
        }
        Counted y = Village.started(2, 100, 10, SusuRing.AGE);
        y.meet(0, false);
        y.meet(0, false);
        y.meet(0, false);
        Edge.due("a new round forgets nothing", y.of(0, 4), -10);
        Edge.due("a new round forgets nothing", y.of(1, 4), 10);
        Counted z = Village.started(3, 100, 10, SusuRing.AGE);
        z.meet(0, false);
        z.leave(0, 2);
        Edge.due("leaving forgets nothing", z.of(2, 4), 10);
        z.die(2, 0);
        Edge.due("death forgets nothing", z.of(2, 4), 10);
        Edge.due("an audit sees the dead", Edge.with(z, w -> {
            w.note(0, 0, -20);
            w.note(0, 1, 10);
        }).audit(0), 2);
    }

    private static void ofNobody() {
        for (int w = 0; w <= 6; w++) {
            int what = w;
            Edge.indexOutside("of(person, " + what + ") of 2", BookEdgesTest::two, 1, (x, p) -> x.of(p, what));
            Edge.indexOutside("of(person, " + what + ") of 16", () -> Village.people(16, 5), 15,
                (x, p) -> x.of(p, what));
        }
        Edge.index("nobody, and what -1", BookEdgesTest::two, x -> x.of(2, -1));
        Edge.index("nobody, and what 7", BookEdgesTest::two, x -> x.of(-1, 7));
    }

    private static void ofRange() {
        Edge.argumentOutside("of(0, what)", BookEdgesTest::two, 0, 6, (x, what) -> x.of(0, what));
        Edge.argumentOutside("of(0, what) of the dead", () -> Edge.with(two(), x -> x.die(0, 1)), 0, 6,
            (x, what) -> x.of(0, what));
        Counted x = Village.holders(3, 5, 7);
        x.borrow(0, 1, 1, 2);
        x.repay(0, 1);
        x.borrow(0, 2, 1, 2);
        int[] due = {9, 5, 2, 1, 48, 1, 1};
        for (int what = 0; what <= 6; what++) {
            Edge.due("of(0, " + what + ")", x.of(0, what), due[what]);
        }
        x.die(0, 1);
        int[] dead = {0, 0, 0, 1, 48, 0, 0};
        for (int what = 0; what <= 6; what++) {
            Edge.due("of(0, " + what + ") of the dead", x.of(0, what), dead[what]);
        }
    }

    /** 16 people, and four circles with 0 and 15 as members. */
    private static Counted full() {
        Counted x = Village.people(16, 100);
        for (int c = 0; c < 4; c++) {
            x.circle(10, c);
            x.enter(c, 15);
            x.enter(c, 0);
        }
        return x;
    }

    private static void memberNowhere() {
        for (int w = 0; w <= 3; w++) {
            int what = w;
            Edge.indexOutside("member(circle, 0, " + what + ")", BookEdgesTest::full, 3,
                (x, c) -> x.member(c, 0, what));
            Edge.indexOutside("member(3, person, " + what + ")", BookEdgesTest::full, 15,
                (x, p) -> x.member(3, p, what));
        }
        Edge.index("no circle, and what 4", BookEdgesTest::full, x -> x.member(4, 0, 4));
        Edge.index("nobody, and what -1", BookEdgesTest::full, x -> x.member(0, 16, -1));
        Edge.index("no circles", BookEdgesTest::two, x -> x.member(0, 0, 0));
    }

    private static void memberRange() {
        Edge.argumentOutside("member(0, 0, what)", BookEdgesTest::full, 0, 3, (x, what) -> x.member(0, 0, what));
        Edge.argumentOutside("member(0, 1, what) of no member", BookEdgesTest::full, 0, 3,
            (x, what) -> x.member(0, 1, what));
        Counted x = full();
        for (int c = 0; c < 4; c++) {
            Edge.due("the first place", x.member(c, 15, 3), 0);
            Edge.due("the second place", x.member(c, 0, 3), 1);
        }
        Counted y = Village.started(3, 0, 10, SusuRing.AGE);
        y.earn(0, 3);
        y.meet(0, true);
        int[] due = {7, 1, 3, 0};
        for (int what = 0; what <= 3; what++) {
            Edge.due("member(0, 0, " + what + ")", y.member(0, 0, what), due[what]);
        }
        Edge.due("no turn", y.member(0, 2, 1), 0);
        Counted ten = Village.circle(10, 0, 10, 0);
        Edge.due("the last place of ten", ten.member(0, 9, 3), 9);
    }

    private static void noMember() {
        for (int what = 0; what <= 3; what++) {
            Edge.due("who never entered", full().member(0, 1, what), SusuRing.NONE);
            Edge.due("in an empty circle", Edge.with(two(), x -> x.circle(5, 0)).member(0, 0, what), SusuRing.NONE);
            Edge.due("who left", Edge.with(full(), x -> x.leave(0, 0)).member(0, 0, what), SusuRing.NONE);
            Edge.due("the dead", Edge.with(full(), x -> x.die(0, 1)).member(0, 0, what), SusuRing.NONE);
        }
    }

    private static void ofCircleNowhere() {
        for (int w = 0; w <= 4; w++) {
            int what = w;
            Edge.indexOutside("ofCircle(circle, " + what + ") of 4", BookEdgesTest::full, 3,
                (x, c) -> x.ofCircle(c, what));
            Edge.indexOutside("ofCircle(circle, " + what + ") of 1", () -> Village.circle(2, 0, 10, 0), 0,
                (x, c) -> x.ofCircle(c, what));
            Edge.index("no circles", BookEdgesTest::two, x -> x.ofCircle(0, what));
        }
        Edge.index("no circle, and what -1", BookEdgesTest::full, x -> x.ofCircle(4, -1));
        Edge.index("no circle, and what 5", BookEdgesTest::full, x -> x.ofCircle(-1, 5));
    }

    private static void ofCircleRange() {
        Edge.argumentOutside("ofCircle(0, what)", BookEdgesTest::full, 0, 4, (x, what) -> x.ofCircle(0, what));
        Counted x = Village.started(3, 100, 10, SusuRing.BID);
        for (int meeting = 0; meeting < 4; meeting++) {
            x.want(0, meeting % 3, 3, true);
            x.meet(0, false);
        }
        int[] due = {4, 3, 4, 1, 1};
        for (int what = 0; what <= 4; what++) {
            Edge.due("ofCircle(0, " + what + ")", x.ofCircle(0, what), due[what]);
        }
    }

    private static void whoWouldHaveTheTurn() {
        for (int way = SusuRing.LOT; way <= SusuRing.BID; way++) {
            Edge.due("no members", Village.circle(0, 0, 10, way).ofCircle(0, 4), SusuRing.NONE);
            Edge.due("not started", Village.circle(3, 0, 10, way).ofCircle(0, 4), SusuRing.NONE);
            Edge.due("started", Village.started(3, 0, 10, way).ofCircle(0, 4), 0);
            Counted x = Village.started(2, 0, 10, way);
            x.leave(0, 0);
            Edge.due("one member", x.ofCircle(0, 4), 1);
            x.leave(0, 1);
            Edge.due("without members", x.ofCircle(0, 4), SusuRing.NONE);
        }
    }

    private static void cash() {
        Counted x = Village.holders(3, 1, 100);
        Edge.due("shares", x.cash(), 30);
        x.borrow(0, 30, 1, 2);
        Edge.due("an empty fund", x.cash(), 0);
        x.month(false);
        Edge.due("what is owed is not there", x.cash(), 0);
        x.repay(0, 10);
        Edge.due("a part paid back", x.cash(), 10);
        x.repay(0, 10000);
        Edge.due("all paid back", x.cash(), 32);
        x.feast();
        Edge.due("a feast leaves 2", x.cash(), 2);
        x.circle(10, SusuRing.AGE);
        Village.enterAll(x, 0, 3);
        x.start(0, 0);
        x.meet(0, false);
        Edge.due("boxes are not the fund", x.cash(), 2);
    }

    private static void coins() {
        Edge.due("a new object", new Counted().coins(), 0);
        Counted x = Village.people(3, 100);
        Edge.due("earned", x.coins(), 0);
        x.earn(0, -99);
        Edge.due("spent", x.coins(), 0);
        Counted y = Village.started(3, 100, 10, SusuRing.BID);
        y.want(0, 0, 5, true);
        y.meet(0, false);
        Edge.due("a coin is in the box", y.ofCircle(0, 0), 1);
        Edge.due("in boxes", y.coins(), 0);
        Counted z = Village.holders(3, 10, 30);
        Edge.due("in the fund", z.coins(), 0);
        z.borrow(0, 50, 1, 2);
        Edge.due("lent", z.coins(), 0);
        Village.months(z, 7);
        Edge.due("lost", z.coins(), 0);
        z.feast();
        Edge.due("a feast", z.coins(), 0);
        z.die(0, 1);
        Edge.due("inherited", z.coins(), 0);
    }

    private static Counted busy() {
        Counted x = Village.holders(4, 10, 100);
        for (int way = SusuRing.LOT; way <= SusuRing.BID; way++) {
            x.circle(30, way);
            Village.enterAll(x, way, 4);
            x.want(way, 1, 7, true);
            x.want(way, 2, 8, false);
            if (way > SusuRing.LOT) {
                x.start(way, way);
                x.meet(way, false);
            }
        }
        x.borrow(0, 50, 1, 2);
        x.note(1, 0, 7);
        return x;
    }

    private static void questions() {
        String due = Views.of(busy());
        Check.due("Questions change nothing: of", Views.of(Edge.with(busy(), BookEdgesTest::askOfPeople)), due);
        Check.due("Questions change nothing: member", Views.of(Edge.with(busy(), BookEdgesTest::askOfMembers)), due);
        Check.due("Questions change nothing: the rest", Views.of(Edge.with(busy(), BookEdgesTest::askTheRest)), due);
    }

    private static void askOfPeople(Counted x) {
        for (int i = 0; i < 2 * 4 * 7; i++) {
            int question = i;
            x.act(y -> y.of(question % 4, question / 8));
        }
    }

    private static void askOfMembers(Counted x) {
        for (int i = 0; i < 4 * 4 * 4; i++) {
            int question = i;
            x.act(y -> y.member(question % 4, question / 4 % 4, question / 16));
        }
    }

    private static void askTheRest(Counted x) {
        for (int i = 0; i < 2 * 4 * 5; i++) {
            int question = i;
            x.act(y -> y.ofCircle(question % 4, question / 8));
            x.act(y -> y.audit(question % 3));
            x.act(SusuRing::cash);
            x.act(SusuRing::coins);
        }
    }

    private static void constants() {
        Edge.due("NONE", SusuRing.NONE, -1);
        Edge.due("LOT", SusuRing.LOT, 0);
        Edge.due("AGE", SusuRing.AGE, 1);
        Edge.due("NEED", SusuRing.NEED, 2);
        Edge.due("BID", SusuRing.BID, 3);
    }
}
