/** Boundaries that "Circles" and promises 5 to 8 name: what goes before a meeting. */
public final class CircleEdgesTest {
    private CircleEdgesTest() {
    }

    public static void main(String[] args) {
        Edge.sentence("circles are numbered from 0, at most 4", CircleEdgesTest::fourCircles);
        Edge.sentence("a sum, 1 to 1000", CircleEdgesTest::sums);
        Edge.sentence("way: LOT to BID", CircleEdgesTest::ways);
        Edge.sentence("circle throws, in the clause's order", CircleEdgesTest::circleInOrder);
        Edge.sentence("a box, 0 at first", CircleEdgesTest::emptyBox);
        Edge.sentence("enter: there is no such circle or person", CircleEdgesTest::enterNowhere);
        Edge.sentence("members, at most 10", CircleEdgesTest::tenMembers);
        Edge.sentence("in the order in which they entered", CircleEdgesTest::orderOfEntering);
        Edge.sentence("before it starts", CircleEdgesTest::enterBeforeStart);
        Edge.sentence("enter: the person is a member, or dead", CircleEdgesTest::enterAgain);
        Edge.sentence("enter throws, in the clause's order", CircleEdgesTest::enterInOrder);
        Edge.sentence("start: there is no such circle", CircleEdgesTest::startNowhere);
        Edge.sentence("seed: 0 to 9999", CircleEdgesTest::seeds);
        Edge.sentence("start: has fewer than 2 members", CircleEdgesTest::startWithTwo);
        Edge.sentence("start: it has started", CircleEdgesTest::startTwice);
        Edge.sentence("start throws, in the clause's order", CircleEdgesTest::startInOrder);
        Edge.sentence("NONE for the ways NEED and BID", CircleEdgesTest::startAnswers);
        Edge.sentence("by AGE the eldest first, of the same who entered first", CircleEdgesTest::byAge);
        Edge.sentence("by LOT, with a seed, again and again, of those left", CircleEdgesTest::byLot);
        Edge.sentence("want: there is no such circle or person", CircleEdgesTest::wantNowhere);
        Edge.sentence("want: amount 0 to 10000", CircleEdgesTest::wantAmounts);
        Edge.sentence("want: the person is no member", CircleEdgesTest::wantOfNoMember);
        Edge.sentence("want throws, in the clause's order", CircleEdgesTest::wantInOrder);
        Edge.sentence("a need and a bid, both 0 at first", CircleEdgesTest::wantsAtFirst);
        Check.end("CircleEdgesTest");
    }

    private static Counted circles(int count) {
        Counted x = new Counted();
        for (int c = 0; c < count; c++) {
            x.circle(10, c);
        }
        return x;
    }

    private static void fourCircles() {
        for (int c = 0; c < 4; c++) {
            Edge.due("circle behind " + c, circles(c).circle(10, SusuRing.LOT), c);
        }
        Edge.state("a fifth", () -> circles(4), x -> x.circle(10, SusuRing.LOT));
        Edge.state("a fifth for one that all have left", () -> Edge.with(circles(4), x -> {
            x.person(30, 0);
            x.enter(3, 0);
            x.leave(3, 0);
        }), x -> x.circle(10, SusuRing.LOT));
    }

    private static void sums() {
        Edge.argumentOutside("circle(sum, LOT)", Counted::new, 1, 1000, (x, sum) -> x.circle(sum, SusuRing.LOT));
        Edge.due("circle(1, LOT)", new Counted().circle(1, SusuRing.LOT), 0);
        Edge.due("circle(1000, LOT)", new Counted().circle(1000, SusuRing.LOT), 0);
    }

    private static void ways() {
        Edge.argumentOutside("circle(5, way)", Counted::new, 0, 3, (x, way) -> x.circle(5, way));
        for (int way = SusuRing.LOT; way <= SusuRing.BID; way++) {
            Edge.due("circle(5, " + way + ")", new Counted().circle(5, way), 0);
        }
    }

    private static void circleInOrder() {
        Edge.argument("sum 0, and a fifth", () -> circles(4), x -> x.circle(0, SusuRing.LOT));
        Edge.argument("sum 1001, and a fifth", () -> circles(4), x -> x.circle(1001, SusuRing.LOT));
        Edge.argument("way -1, and a fifth", () -> circles(4), x -> x.circle(5, -1));
        Edge.argument("way 4, and a fifth", () -> circles(4), x -> x.circle(5, 4));
    }

    private static void emptyBox() {
        Counted x = circles(4);
        for (int c = 0; c < 4; c++) {
            for (int what = 0; what <= 3; what++) {
                Edge.due("ofCircle(" + c + ", " + what + ")", x.ofCircle(c, what), 0);
            }
        }
    }

    /** 16 people, and four circles without members. */
    private static Counted full() {
        Counted x = Village.people(16, 100);
        for (int c = 0; c < 4; c++) {
            x.circle(10, c);
        }
        return x;
    }

    private static void enterNowhere() {
        Edge.indexOutside("enter(circle, 0) of 4", CircleEdgesTest::full, 3, (x, c) -> x.enter(c, 0));
        Edge.indexOutside("enter(3, person) of 16", CircleEdgesTest::full, 15, (x, p) -> x.enter(3, p));
        Edge.due("enter(0, 15)", full().enter(0, 15), 1);
        Edge.due("enter(3, 0)", full().enter(3, 0), 1);
        Edge.indexOutside("enter(circle, 0) of 1", () -> Edge.with(Village.people(1, 0), x -> x.circle(5, 0)), 0,
            (x, c) -> x.enter(c, 0));
        Edge.indexOutside("enter(0, person) of 1", () -> Edge.with(Village.people(1, 0), x -> x.circle(5, 0)), 0,
            (x, p) -> x.enter(0, p));
    }

    private static Counted entered(int members) {
        return Edge.with(full(), x -> Village.enterAll(x, 0, members));
    }

    private static void tenMembers() {
        Edge.due("the first", entered(0).enter(0, 15), 1);
        Edge.due("the 10th", entered(9).enter(0, 15), 10);
        Edge.state("an 11th", () -> entered(10), x -> x.enter(0, 10));
        Edge.due("an 11th in another circle", entered(10).enter(1, 10), 1);
        Edge.due("one may be in all circles", Edge.with(entered(1), x -> {
            x.enter(1, 0);
            x.enter(2, 0);
        }).enter(3, 0), 1);
        Edge.due("one more for one who left", Edge.with(entered(10), x -> x.leave(0, 0)).enter(0, 10), 10);
    }

    private static void orderOfEntering() {
        Counted x = full();
        for (int p = 0; p < 10; p++) {
            Edge.due("enter(0, " + (15 - p) + ")", x.enter(0, 15 - p), p + 1);
        }
        for (int p = 0; p < 10; p++) {
            Edge.due("the place of " + (15 - p), x.member(0, 15 - p, 3), p);
        }
        x.leave(0, 15);
        Edge.due("the second is first", x.member(0, 14, 3), 0);
        Edge.due("who left and enters again is last", x.enter(0, 15), 10);
        Edge.due("the last place", x.member(0, 15, 3), 9);
    }

    private static void enterBeforeStart() {
        Edge.due("not started", Village.circle(2, 0, 10, SusuRing.AGE).ofCircle(0, 1), 2);
        for (int way = SusuRing.LOT; way <= SusuRing.BID; way++) {
            int circle = way;
            Edge.state("started, by way " + way, () -> Edge.with(full(), x -> {
                Village.enterAll(x, circle, 2);
                x.start(circle, 0);
            }), x -> x.enter(circle, 5));
        }
        Edge.state("started, and all have left", () -> Edge.with(Village.started(2, 0, 10, SusuRing.AGE), x -> {
            x.leave(0, 0);
            x.leave(0, 1);
        }), x -> x.enter(0, 0));
        Edge.due("another has started", Edge.with(entered(2), x -> x.start(0, 0)).enter(1, 5), 1);
    }

    private static void enterAgain() {
        Edge.state("the only member", () -> entered(1), x -> x.enter(0, 0));
        Edge.state("the first of 9", () -> entered(9), x -> x.enter(0, 0));
        Edge.state("the last of 9", () -> entered(9), x -> x.enter(0, 8));
        Edge.state("the dead", () -> Edge.with(full(), x -> x.die(5, 6)), x -> x.enter(0, 5));
        Edge.due("the heir of no place", Edge.with(full(), x -> x.die(5, 6)).enter(0, 6), 1);
        Edge.state("the heir of a place", () -> Edge.with(entered(1), x -> x.die(0, 6)), x -> x.enter(0, 6));
        Edge.due("who left", Edge.with(entered(1), x -> x.leave(0, 0)).enter(0, 0), 1);
    }

    private static void enterInOrder() {
        Edge.index("no circle, and the dead", () -> Edge.with(full(), x -> x.die(5, 6)), x -> x.enter(4, 5));
        Edge.index("nobody, and started", () -> Village.started(2, 0, 10, 0), x -> x.enter(0, 2));
        Edge.index("nobody, and 10 members", () -> entered(10), x -> x.enter(0, 16));
        Edge.index("no circle, and nobody", CircleEdgesTest::full, x -> x.enter(4, 16));
    }

    private static void startNowhere() {
        Edge.indexOutside("start(circle, 0) of 1", () -> Village.circle(2, 0, 10, SusuRing.LOT), 0,
            (x, c) -> x.start(c, 0));
        Edge.indexOutside("start(circle, 0) of 4", CircleEdgesTest::full, 3, (x, c) -> x.start(c, 0));
    }

    private static void seeds() {
        for (int w = SusuRing.LOT; w <= SusuRing.BID; w++) {
            int way = w;
            Edge.argumentOutside("start(0, seed) by way " + way, () -> Village.circle(3, 0, 10, way), 0, 9999,
                (x, seed) -> x.start(0, seed));
        }
        Edge.due("start(0, 0)", Village.circle(2, 0, 10, SusuRing.LOT).start(0, 0), 0);
        Edge.due("start(0, 9999)", Village.circle(2, 0, 10, SusuRing.LOT).start(0, 9999), 1);
    }

    private static void startWithTwo() {
        for (int w = SusuRing.LOT; w <= SusuRing.BID; w++) {
            int way = w;
            Edge.state("no members", () -> Village.circle(0, 0, 10, way), x -> x.start(0, 0));
            Edge.state("one member", () -> Village.circle(1, 0, 10, way), x -> x.start(0, 0));
            Edge.due("two members", Village.circle(2, 0, 10, way).start(0, 0), way <= SusuRing.AGE ? 0 : -1);
            Edge.due("ten members", Village.circle(10, 0, 10, way).start(0, 0), way <= SusuRing.AGE ? 0 : -1);
        }
        Edge.state("one of two left", () -> Edge.with(Village.circle(2, 0, 10, 1), x -> x.leave(0, 0)),
            x -> x.start(0, 0));
        Edge.state("one of two inherited from the other", () -> Edge.with(Village.circle(2, 0, 10, 1),
            x -> x.die(0, 1)), x -> x.start(0, 0));
    }

    private static void startTwice() {
        for (int w = SusuRing.LOT; w <= SusuRing.BID; w++) {
            int way = w;
            Edge.state("again", () -> Village.started(2, 0, 10, way), x -> x.start(0, 1));
            Edge.state("again behind a round", () -> Edge.with(Village.started(2, 0, 10, way), x -> {
                x.meet(0, false);
                x.meet(0, false);
            }), x -> x.start(0, 1));
        }
        Edge.due("another circle", Edge.with(Village.started(2, 0, 10, 0), x -> {
            x.circle(5, SusuRing.AGE);
            Village.enterAll(x, 1, 2);
        }).start(1, 0), 0);
    }

    private static void startInOrder() {
        Edge.index("no circle, and seed -1", () -> Village.circle(2, 0, 10, 0), x -> x.start(1, -1));
        Edge.index("no circle, and seed 10000", () -> Village.circle(2, 0, 10, 0), x -> x.start(-1, 10000));
        Edge.argument("seed -1, and one member", () -> Village.circle(1, 0, 10, 0), x -> x.start(0, -1));
        Edge.argument("seed 10000, and started", () -> Village.started(2, 0, 10, 0), x -> x.start(0, 10000));
    }

    private static void startAnswers() {
        Counted x = new Counted();
        x.person(1, 0);
        x.person(120, 11111);
        for (int way = SusuRing.LOT; way <= SusuRing.BID; way++) {
            x.circle(5, way);
            Village.enterAll(x, way, 2);
        }
        Edge.due("by lot", x.start(SusuRing.LOT, 0), 0);
        Edge.due("by age", x.start(SusuRing.AGE, 0), 1);
        Edge.due("by need", x.start(SusuRing.NEED, 0), SusuRing.NONE);
        Edge.due("by bid", x.start(SusuRing.BID, 0), SusuRing.NONE);
        for (int way = SusuRing.LOT; way <= SusuRing.BID; way++) {
            Edge.due("who would have the turn", x.ofCircle(way, 4), way == SusuRing.AGE ? 1 : 0);
        }
    }

    private static void byAge() {
        turnsByAge(new int[] {1, 120}, new int[] {0, 1}, new int[] {1, 0});
        turnsByAge(new int[] {120, 1}, new int[] {0, 1}, new int[] {0, 1});
        turnsByAge(new int[] {1, 1, 1}, new int[] {2, 0, 1}, new int[] {2, 0, 1});
        turnsByAge(new int[] {50, 51, 50}, new int[] {2, 1, 0}, new int[] {1, 2, 0});
        turnsByAge(new int[] {120, 119, 120, 1, 2, 1, 60, 60, 61, 59}, new int[] {9, 8, 7, 6, 5, 4, 3, 2, 1, 0},
            new int[] {2, 0, 1, 8, 7, 6, 9, 4, 5, 3});
    }

    private static void turnsByAge(int[] ages, int[] entering, int[] due) {
        Counted x = new Counted();
        for (int p = 0; p < ages.length; p++) {
            x.person(ages[p], Village.nameOf(p));
        }
        x.circle(5, SusuRing.AGE);
        for (int p : entering) {
            x.enter(0, p);
        }
        Edge.due("start", x.start(0, 9999), due[0]);
        checkTurns(x, due);
    }

    private static void checkTurns(Counted x, int[] due) {
        for (int i = 0; i <= due.length; i++) {
            int next = due[i % due.length];
            Edge.due("who would have the turn", x.ofCircle(0, 4), next);
            Edge.due("meeting " + i, x.meet(0, false), next);
        }
    }

    private static void byLot() {
        turnsByLot(2, 0, new int[] {0, 1});
        turnsByLot(2, 1, new int[] {1, 0});
        turnsByLot(2, 9999, new int[] {1, 0});
        // of 0 1 2 left at the places 2 % 3, 33 % 2, 64 % 1
        turnsByLot(3, 2, new int[] {2, 1, 0});
        // places 0 % 10, 31 % 9 = 4, 62 % 8 = 6, 93 % 7 = 2, 124 % 6 = 4, 155 % 5 = 0, 186 % 4 = 2, 217 % 3 = 1,
        // 248 % 2 = 0, 0
        turnsByLot(10, 0, new int[] {0, 5, 8, 3, 7, 1, 6, 4, 2, 9});
        // places 9999 % 10 = 9, 10030 % 9 = 4, 10061 % 8 = 5, 10092 % 7 = 5, 10123 % 6 = 1, 10154 % 5 = 4,
        // 10185 % 4 = 1, 10216 % 3 = 1, 10247 % 2 = 1, 0
        turnsByLot(10, 9999, new int[] {9, 4, 6, 7, 1, 8, 2, 3, 5, 0});
    }

    private static void turnsByLot(int members, int seed, int[] due) {
        Counted x = Village.circle(members, 0, 5, SusuRing.LOT);
        Edge.due("start with " + seed, x.start(0, seed), due[0]);
        checkTurns(x, due);
        Counted y = Village.people(16, 0);
        y.circle(5, SusuRing.LOT);
        for (int p = 0; p < members; p++) {
            y.enter(0, 15 - p);
        }
        Edge.due("the order is of entering, not of numbers", y.start(0, seed), 15 - due[0]);
    }

    private static void wantNowhere() {
        Edge.indexOutside("want(circle, 0, 5, true) of 4", () -> Edge.with(entered(1), x -> x.enter(3, 0)), 3,
            (x, c) -> x.want(c, 0, 5, true));
        Edge.indexOutside("want(0, person, 5, false) of 16", () -> Edge.with(full(), x -> x.enter(0, 15)), 15,
            (x, p) -> x.want(0, p, 5, false));
        Edge.due("want(3, 15, 5, true)", Edge.with(full(), x -> x.enter(3, 15)).want(3, 15, 5, true), 0);
    }

    private static void wantAmounts() {
        Edge.argumentOutside("want(0, 0, amount, true)", () -> entered(2), 0, 10000,
            (x, amount) -> x.want(0, 0, amount, true));
        Edge.argumentOutside("want(0, 0, amount, false)", () -> entered(2), 0, 10000,
            (x, amount) -> x.want(0, 0, amount, false));
        boolean[] kinds = {true, false};
        for (boolean isBid : kinds) {
            Counted x = entered(2);
            Edge.due("at first", x.want(0, 0, 10000, isBid), 0);
            Edge.due("what it was", x.want(0, 0, 0, isBid), 10000);
            Edge.due("what it was", x.want(0, 0, 1, isBid), 0);
            Edge.due("what it was", x.want(0, 0, 1, isBid), 1);
            Edge.due("the other one of both", x.want(0, 0, 0, !isBid), 0);
            Edge.due("another member's", x.want(0, 1, 0, isBid), 0);
        }
    }

    private static void wantOfNoMember() {
        Edge.state("who never entered", () -> entered(2), x -> x.want(0, 2, 5, true));
        Edge.state("in an empty circle", CircleEdgesTest::full, x -> x.want(0, 0, 5, false));
        Edge.state("a member of another circle", () -> entered(2), x -> x.want(1, 0, 5, true));
        Edge.state("who left", () -> Edge.with(entered(2), x -> x.leave(0, 0)), x -> x.want(0, 0, 5, true));
        Edge.state("the dead", () -> Edge.with(entered(2), x -> x.die(0, 5)), x -> x.want(0, 0, 5, false));
        Edge.due("the heir", Edge.with(entered(2), x -> x.die(0, 5)).want(0, 5, 5, false), 0);
        Edge.due("once it has started", Village.started(2, 0, 10, 2).want(0, 1, 5, false), 0);
    }

    private static void wantInOrder() {
        Edge.index("no circle, and amount -1", () -> entered(2), x -> x.want(4, 0, -1, true));
        Edge.index("nobody, and amount 10001", () -> entered(2), x -> x.want(0, 16, 10001, true));
        Edge.index("no circle, and no member", () -> entered(2), x -> x.want(4, 2, 5, true));
        Edge.index("nobody", () -> entered(2), x -> x.want(0, -1, 5, false));
        Edge.argument("amount -1, and no member", () -> entered(2), x -> x.want(0, 2, -1, false));
        Edge.argument("amount 10001, and no member", () -> entered(2), x -> x.want(0, 2, 10001, true));
    }

    private static void wantsAtFirst() {
        Counted x = entered(10);
        for (int p = 0; p < 10; p++) {
            Edge.due("the arrears", x.member(0, p, 0), 0);
            Edge.due("the turn", x.member(0, p, 1), 0);
            Edge.due("what was paid in", x.member(0, p, 2), 0);
            Edge.due("the need", x.want(0, p, 0, false), 0);
            Edge.due("the bid", x.want(0, p, 0, true), 0);
        }
        Counted y = Edge.with(entered(2), z -> {
            z.want(0, 0, 7, true);
            z.want(0, 0, 8, false);
            z.leave(0, 0);
            z.enter(0, 0);
        });
        Edge.due("the need of who left and entered again", y.want(0, 0, 0, false), 0);
        Edge.due("the bid of who left and entered again", y.want(0, 0, 0, true), 0);
    }
}
