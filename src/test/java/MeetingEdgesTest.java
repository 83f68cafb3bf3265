/** Boundaries that "Circles" and promises 9 and 10 name: meetings, rounds, and leaving. */
public final class MeetingEdgesTest {
    private MeetingEdgesTest() {
    }

    public static void main(String[] args) {
        Edge.sentence("meet: there is no such circle", MeetingEdgesTest::meetNowhere);
        Edge.sentence("At a meeting, of at least two members", MeetingEdgesTest::meetOfTwo);
        Edge.sentence("meet: it has not started", MeetingEdgesTest::meetBeforeStart);
        Edge.sentence("meet throws, in the clause's order", MeetingEdgesTest::meetInOrder);
        Edge.sentence("pays as much of that as the purse has", MeetingEdgesTest::purses);
        Edge.sentence("owes the sum and the arrears", MeetingEdgesTest::sumAndArrears);
        Edge.sentence("if that is above 0, and the meeting was not moved", MeetingEdgesTest::fineOrNot);
        Edge.sentence("a tenth of the sum more: the fine", MeetingEdgesTest::tenths);
        Edge.sentence("who had none in this round", MeetingEdgesTest::noneInThisRound);
        Edge.sentence("by NEED who has the greatest need", MeetingEdgesTest::greatestNeed);
        Edge.sentence("by BID who has the greatest bid", MeetingEdgesTest::greatestBid);
        Edge.sentence("The pot is at most the sum times the members", MeetingEdgesTest::pots);
        Edge.sentence("the discount is the bid, but at most half of the pot", MeetingEdgesTest::discounts);
        Edge.sentence("the discount divided by how many these are", MeetingEdgesTest::partsOfDiscount);
        Edge.sentence("By BID the discount", MeetingEdgesTest::noDiscountByOtherWays);
        Edge.sentence("If all members had a turn, a new round begins", MeetingEdgesTest::rounds);
        Edge.sentence("Behind each meeting all bids are 0; needs stay", MeetingEdgesTest::bidsAndNeeds);
        Edge.sentence("leave: there is no such circle or person", MeetingEdgesTest::leaveNowhere);
        Edge.sentence("leave: the person is no member", MeetingEdgesTest::leaveOfNoMember);
        Edge.sentence("leave: had a turn in this round", MeetingEdgesTest::leaveBehindTurn);
        Edge.sentence("leave: has arrears", MeetingEdgesTest::leaveWithArrears);
        Edge.sentence("leave throws, in the clause's order", MeetingEdgesTest::leaveInOrder);
        Edge.sentence("goes back, as far as there is in the box", MeetingEdgesTest::goesBack);
        Edge.sentence("since the round began", MeetingEdgesTest::sinceTheRoundBegan);
        Edge.sentence("by leaving, and all of these had a turn", MeetingEdgesTest::newRoundByLeaving);
        Edge.sentence("If there are members left", MeetingEdgesTest::nobodyLeft);
        Check.end("MeetingEdgesTest");
    }

    private static void meetNowhere() {
        Edge.indexOutside("meet(circle, false) of 1", () -> Village.started(2, 5, 10, 1), 0,
            (x, c) -> x.meet(c, false));
        Edge.indexOutside("meet(circle, true) of 4", () -> Edge.with(Village.started(2, 5, 10, 1), x -> {
            x.circle(5, 0);
            x.circle(5, 0);
            x.circle(5, 0);
            Village.enterAll(x, 3, 2);
            x.start(3, 0);
        }), 3, (x, c) -> x.meet(c, true));
    }

    private static void meetOfTwo() {
        for (int w = SusuRing.LOT; w <= SusuRing.BID; w++) {
            int way = w;
            Edge.state("of one", () -> Edge.with(Village.started(2, 5, 10, way), x -> x.leave(0, 0)),
                x -> x.meet(0, false));
            Edge.state("of one, moved", () -> Edge.with(Village.started(2, 5, 10, way), x -> x.leave(0, 1)),
                x -> x.meet(0, true));
            Edge.state("of one who inherited from the other", () -> Edge.with(Village.started(2, 5, 10, way),
                x -> x.die(0, 1)), x -> x.meet(0, false));
            Edge.state("of none", () -> Edge.with(Village.started(2, 5, 10, way), x -> {
                x.leave(0, 0);
                x.leave(0, 1);
            }), x -> x.meet(0, false));
            Edge.due("of two", Village.started(2, 5, 10, way).meet(0, false), 0);
            Edge.due("of two of three", Edge.with(Village.started(3, 5, 10, way), x -> x.leave(0, 0))
                .meet(0, false), way == SusuRing.LOT ? 2 : 1);
            Edge.due("of ten", Village.started(10, 5, 10, way).meet(0, true), 0);
        }
    }

    private static void meetBeforeStart() {
        Edge.state("of two", () -> Village.circle(2, 5, 10, SusuRing.AGE), x -> x.meet(0, false));
        Edge.state("of ten", () -> Village.circle(10, 5, 10, SusuRing.BID), x -> x.meet(0, true));
        Edge.state("of none", () -> Village.circle(0, 5, 10, SusuRing.NEED), x -> x.meet(0, false));
    }

    private static void meetInOrder() {
        Edge.index("no circle, and one has not started", () -> Village.circle(2, 5, 10, 0), x -> x.meet(1, false));
        Edge.index("no circle at all", () -> Village.people(2, 5), x -> x.meet(0, true));
    }

    /** The turn is of 0; 1 has that much in the purse at a meeting for a sum of 50. */
    private static Counted paidBy(int purse, boolean moved) {
        Counted x = Village.started(2, 0, 50, SusuRing.AGE);
        x.earn(0, 100);
        x.earn(1, purse);
        x.meet(0, moved);
        return x;
    }

    private static void checkPaid(int purse, int left, int paid, int arrears, int arrearsMoved) {
        Counted x = paidBy(purse, false);
        Edge.due(purse + ": the purse", x.of(1, 0), left);
        Edge.due(purse + ": paid in", x.member(0, 1, 2), paid);
        Edge.due(purse + ": the truth", x.of(1, 4), paid);
        Edge.due(purse + ": the pot", x.of(0, 0), 50 + 50 + paid);
        Edge.due(purse + ": the arrears", x.member(0, 1, 0), arrears);
        Edge.due(purse + ": the arrears of who paid all", x.member(0, 0, 0), 0);
        Edge.due(purse + ": the arrears, moved", paidBy(purse, true).member(0, 1, 0), arrearsMoved);
        Edge.due(purse + ": the purse, moved", paidBy(purse, true).of(1, 0), left);
    }

    private static void purses() {
        checkPaid(0, 0, 0, 55, 50);
        checkPaid(1, 0, 1, 54, 49);
        checkPaid(49, 0, 49, 6, 1);
        checkPaid(50, 0, 50, 0, 0);
        checkPaid(51, 1, 50, 0, 0);
        Counted x = Village.started(10, 0, 1000, SusuRing.NEED);
        Edge.due("ten empty purses", x.meet(0, false), 0);
        Edge.due("an empty pot", x.of(0, 0), 0);
        Edge.due("an empty box", x.ofCircle(0, 0), 0);
        Edge.due("the arrears of the last", x.member(0, 9, 0), 1100);
        Edge.due("the truth", x.of(9, 4), 0);
    }

    /** 1 owes 50 and arrears of 55 at the second meeting. */
    private static void sumAndArrears() {
        int[] purse = {0, 54, 55, 104, 105, 106};
        int[] arrears = {110, 56, 55, 6, 0, 0};
        for (int i = 0; i < purse.length; i++) {
            Counted x = paidBy(0, false);
            x.earn(1, purse[i]);
            int paid = Math.min(105, purse[i]);
            Edge.due("the turn", x.meet(0, false), 1);
            Edge.due("the arrears", x.member(0, 1, 0), arrears[i]);
            int pot = Math.min(100, 50 + paid);
            Edge.due("the purse", x.of(1, 0), purse[i] - paid + pot);
            Edge.due("the box", x.ofCircle(0, 0), 50 + paid - pot);
            Edge.due("the truth", x.of(1, 4), paid - pot);
        }
    }

    private static void fineOrNot() {
        Counted x = paidBy(49, true);
        Edge.due("moved: no fine on one coin", x.member(0, 1, 0), 1);
        x = paidBy(49, false);
        Edge.due("not moved: a fine on one coin", x.member(0, 1, 0), 6);
        x = paidBy(50, false);
        Edge.due("no arrears, no fine", x.member(0, 1, 0), 0);
        x = paidBy(0, false);
        x.meet(0, true);
        Edge.due("moved: older arrears stay, with the sum", x.member(0, 1, 0), 105);
        Edge.due("a fine for each meeting", Edge.with(paidBy(0, false), y -> y.meet(0, false)).member(0, 1, 0), 110);
        Counted z = paidBy(0, true);
        z.earn(1, 50);
        z.meet(0, false);
        Edge.due("a fine when just the arrears were paid", z.member(0, 1, 0), 55);
    }

    private static int arrearsOf(int sum) {
        Counted x = Village.started(2, 0, sum, SusuRing.AGE);
        x.meet(0, false);
        return x.member(0, 0, 0);
    }

    private static void tenths() {
        Edge.due("of 1", arrearsOf(1), 1);
        Edge.due("of 9", arrearsOf(9), 9);
        Edge.due("of 10", arrearsOf(10), 11);
        Edge.due("of 19", arrearsOf(19), 20);
        Edge.due("of 20", arrearsOf(20), 22);
        Edge.due("of 999", arrearsOf(999), 1098);
        Edge.due("of 1000", arrearsOf(1000), 1100);
    }

    private static void noneInThisRound() {
        for (int way = SusuRing.LOT; way <= SusuRing.BID; way++) {
            Counted x = Village.started(3, 100, 10, way);
            boolean[] had = new boolean[3];
            for (int meeting = 0; meeting < 3; meeting++) {
                x.want(0, 0, 100, false);
                x.want(0, 0, 100, true);
                int next = x.ofCircle(0, 4);
                int turn = x.meet(0, false);
                Edge.due("as was told", turn, next);
                Edge.due("had no turn before", had[turn] ? 1 : 0, 0);
                had[turn] = true;
                Edge.due("is marked", x.member(0, turn, 1), meeting < 2 ? 1 : 0);
            }
        }
    }

    private static int turnByWants(int way, int... wants) {
        Counted x = Village.started(wants.length, 100, 10, way);
        for (int p = 0; p < wants.length; p++) {
            x.want(0, p, wants[p], way == SusuRing.BID);
        }
        int next = x.ofCircle(0, 4);
        int turn = x.meet(0, false);
        Edge.due("as was told", turn, next);
        return turn;
    }

    private static void greatestOf(int way) {
        Edge.due("all 0", turnByWants(way, 0, 0, 0), 0);
        Edge.due("one at all", turnByWants(way, 0, 0, 1), 2);
        Edge.due("10000 and 9999", turnByWants(way, 9999, 10000, 9999), 1);
        Edge.due("10000 and 9999, the first", turnByWants(way, 10000, 9999, 9999), 0);
        Edge.due("the same, who entered first", turnByWants(way, 4, 5, 5), 1);
        Edge.due("all the same", turnByWants(way, 10000, 10000), 0);
        Edge.due("the last of ten", turnByWants(way, 8, 8, 8, 8, 8, 8, 8, 8, 8, 9), 9);
        Counted x = Village.people(3, 100);
        x.circle(10, way);
        x.enter(0, 2);
        x.enter(0, 1);
        x.enter(0, 0);
        x.start(0, 0);
        x.want(0, 0, 3, way == SusuRing.BID);
        x.want(0, 1, 3, way == SusuRing.BID);
        Edge.due("who entered first, not who is first as a number", x.meet(0, false), 1);
    }

    private static void greatestNeed() {
        greatestOf(SusuRing.NEED);
        Counted x = Village.started(2, 100, 10, SusuRing.NEED);
        x.want(0, 1, 10000, true);
        Edge.due("bids do not count", x.meet(0, false), 0);
    }

    private static void greatestBid() {
        greatestOf(SusuRing.BID);
        Counted x = Village.started(2, 100, 10, SusuRing.BID);
        x.want(0, 1, 10000, false);
        Edge.due("needs do not count", x.meet(0, false), 0);
    }

    /** 1 pays arrears of 2, besides, as far as the purse goes: the box may hold more than 20. */
    private static void checkPot(int purse, int pot, int box) {
        Counted x = Village.started(2, 0, 10, SusuRing.AGE);
        x.earn(0, 100);
        x.earn(1, 9);
        x.meet(0, false);
        x.earn(1, purse);
        Edge.due(purse + ": the turn", x.meet(0, false), 1);
        Edge.due(purse + ": the pot", x.of(1, 0), Math.max(0, purse - 12) + pot);
        Edge.due(purse + ": the box", x.ofCircle(0, 0), box);
    }

    private static void pots() {
        checkPot(0, 10, 0);
        checkPot(9, 19, 0);
        checkPot(10, 20, 0);
        checkPot(11, 20, 1);
        checkPot(12, 20, 2);
        checkPot(13, 20, 2);
        Counted x = Village.started(10, 1000, 1000, SusuRing.AGE);
        x.meet(0, false);
        Edge.due("1000 of ten", x.of(0, 0), 10000);
        Edge.due("the box", x.ofCircle(0, 0), 0);
        Counted y = Village.started(2, 1, 1, SusuRing.AGE);
        y.meet(0, false);
        Edge.due("1 of two", y.of(0, 0), 2);
    }

    /** Who has the turn bids so much; what the turn brings, what each other gets, what stays in the box. */
    private static void checkBid(int members, int sum, int bid, int gets, int each, int box) {
        Counted x = Village.started(members, 1000, sum, SusuRing.BID);
        x.want(0, 0, bid, true);
        String at = members + " members, " + sum + ", bid " + bid + ": ";
        Edge.due(at + "the turn", x.meet(0, false), 0);
        Edge.due(at + "who has the turn", x.of(0, 0), 1000 - sum + gets);
        for (int p = 1; p < members; p++) {
            Edge.due(at + "another", x.of(p, 0), 1000 - sum + each);
            Edge.due(at + "the truth of another", x.of(p, 4), sum - each);
        }
        Edge.due(at + "the box", x.ofCircle(0, 0), box);
        Edge.due(at + "coins()", x.coins(), 0);
    }

    private static void discounts() {
        checkBid(2, 10, 0, 20, 0, 0);
        checkBid(2, 10, 1, 19, 1, 0);
        checkBid(2, 10, 9, 11, 9, 0);
        checkBid(2, 10, 10, 10, 10, 0);
        checkBid(2, 10, 11, 10, 10, 0);
        checkBid(2, 10, 10000, 10, 10, 0);
        checkBid(3, 5, 6, 9, 3, 0);
        checkBid(3, 5, 7, 8, 3, 1);
        checkBid(3, 5, 8, 8, 3, 1);
        checkBid(2, 1000, 999, 1001, 999, 0);
        checkBid(2, 1000, 1001, 1000, 1000, 0);
        Counted x = Village.started(3, 0, 10, SusuRing.BID);
        x.want(0, 1, 10000, true);
        Edge.due("an empty pot", x.meet(0, false), 1);
        Edge.due("an empty box", x.ofCircle(0, 0), 0);
        Edge.due("empty purses", x.of(0, 0) + x.of(1, 0) + x.of(2, 0), 0);
        Counted y = Village.started(2, 0, 10, SusuRing.BID);
        y.earn(0, 1);
        y.want(0, 1, 1, true);
        Edge.due("a pot of 1", y.meet(0, false), 1);
        Edge.due("has a half of 0", y.of(1, 0), 1);
        Edge.due("so that there is no discount", y.of(0, 0), 0);
    }

    private static void partsOfDiscount() {
        checkBid(3, 10, 1, 29, 0, 1);
        checkBid(3, 10, 2, 28, 1, 0);
        checkBid(3, 10, 3, 27, 1, 1);
        checkBid(10, 2, 8, 12, 0, 8);
        checkBid(10, 2, 9, 11, 1, 0);
        checkBid(10, 2, 10, 10, 1, 1);
        checkBid(10, 1000, 5000, 5000, 555, 5);
    }

    private static void noDiscountByOtherWays() {
        for (int way = SusuRing.LOT; way <= SusuRing.NEED; way++) {
            Counted x = Village.started(2, 100, 10, way);
            x.want(0, 0, 5, true);
            x.want(0, 1, 5, true);
            Edge.due("the turn", x.meet(0, false), 0);
            Edge.due("gets all", x.of(0, 0), 110);
            Edge.due("the other gets nothing", x.of(1, 0), 90);
        }
    }

    private static void rounds() {
        for (int way = SusuRing.LOT; way <= SusuRing.BID; way++) {
            for (int members = 2; members <= 10; members += 8) {
                Counted x = Village.started(members, 100, 1, way);
                for (int meeting = 1; meeting < members; meeting++) {
                    x.meet(0, false);
                    Edge.due("no round has ended", x.ofCircle(0, 3), 0);
                    Edge.due("paid in", x.member(0, 1, 2), meeting);
                }
                x.meet(0, false);
                Edge.due("a round has ended", x.ofCircle(0, 3), 1);
                Edge.due("meetings", x.ofCircle(0, 2), members);
                for (int p = 0; p < members; p++) {
                    Edge.due("no turn in the new round", x.member(0, p, 1), 0);
                    Edge.due("nothing paid in yet", x.member(0, p, 2), 0);
                }
            }
        }
        Counted y = Village.started(2, 0, 10, SusuRing.AGE);
        y.meet(0, false);
        y.meet(0, false);
        Edge.due("arrears go on in the new round", y.member(0, 0, 0), 22);
    }

    private static void bidsAndNeeds() {
        for (int way = SusuRing.LOT; way <= SusuRing.BID; way++) {
            Counted x = Village.started(3, 100, 10, way);
            for (int p = 0; p < 3; p++) {
                x.want(0, p, 10 - p, true);
                x.want(0, p, 20 - p, false);
            }
            x.meet(0, false);
            for (int p = 0; p < 3; p++) {
                Edge.due("the bid", x.want(0, p, 5, true), 0);
                Edge.due("the need", x.want(0, p, 20 - p, false), 20 - p);
            }
            x.meet(0, true);
            x.meet(0, true);
            Edge.due("a round has ended", x.ofCircle(0, 3), 1);
            for (int p = 0; p < 3; p++) {
                Edge.due("the bid behind the round", x.want(0, p, 0, true), 0);
                Edge.due("the need behind the round", x.want(0, p, 0, false), 20 - p);
            }
        }
        Counted y = Village.started(2, 100, 10, SusuRing.BID);
        y.circle(10, SusuRing.BID);
        Village.enterAll(y, 1, 2);
        y.want(1, 0, 5, true);
        y.meet(0, false);
        Edge.due("another circle's bid stays", y.want(1, 0, 0, true), 5);
    }

    private static void leaveNowhere() {
        Edge.indexOutside("leave(circle, 1) of 1", () -> Village.started(2, 5, 10, 1), 0, (x, c) -> x.leave(c, 1));
        Edge.indexOutside("leave(0, person) of 2", () -> Village.started(2, 5, 10, 1), 1, (x, p) -> x.leave(0, p));
        Edge.indexOutside("leave(circle, 15) of 4", MeetingEdgesTest::fourCirclesOfTheLast, 3,
            (x, c) -> x.leave(c, 15));
        Edge.indexOutside("leave(3, person) of 16", MeetingEdgesTest::fourCirclesOfTheLast, 15,
            (x, p) -> x.leave(3, p));
        Edge.due("leave(3, 15)", fourCirclesOfTheLast().leave(3, 15), 0);
    }

    private static Counted fourCirclesOfTheLast() {
        Counted x = Village.people(16, 5);
        for (int c = 0; c < 4; c++) {
            x.circle(10, c);
            x.enter(c, 15);
        }
        return x;
    }

    private static void leaveOfNoMember() {
        Edge.state("who never entered", () -> Edge.with(Village.started(2, 5, 10, 1),
            x -> x.person(30, Village.nameOf(2))), x -> x.leave(0, 2));
        Edge.state("in an empty circle", () -> Edge.with(Village.people(1, 5), x -> x.circle(10, 1)),
            x -> x.leave(0, 0));
        Edge.state("who left", () -> Edge.with(Village.started(3, 5, 10, 1), x -> x.leave(0, 1)), x -> x.leave(0, 1));
        Edge.state("the dead", () -> Edge.with(Village.started(3, 5, 10, 1), x -> x.die(0, 1)), x -> x.leave(0, 0));
        Edge.state("a member of another circle", () -> Edge.with(Village.started(3, 5, 10, 1), x -> x.circle(5, 1)),
            x -> x.leave(1, 0));
    }

    private static void leaveBehindTurn() {
        Edge.state("behind the turn", () -> Edge.with(Village.started(3, 100, 10, 1), x -> x.meet(0, false)),
            x -> x.leave(0, 0));
        Edge.state("two meetings behind the turn", () -> Edge.with(Village.started(3, 100, 10, 1), x -> {
            x.meet(0, false);
            x.meet(0, false);
        }), x -> x.leave(0, 0));
        Edge.due("in the round behind", Edge.with(Village.started(2, 100, 10, 1), x -> {
            x.meet(0, false);
            x.meet(0, false);
        }).leave(0, 0), 0);
        Edge.due("who had none", Edge.with(Village.started(3, 100, 10, 1), x -> x.meet(0, false)).leave(0, 1), 0);
        Edge.state("the heir of who had a turn", () -> Edge.with(Village.started(3, 100, 10, 1), x -> {
            x.person(30, Village.nameOf(3));
            x.meet(0, false);
            x.die(0, 3);
        }), x -> x.leave(0, 3));
    }

    /** 1 has so much for a sum of 10, and no turn yet. */
    private static Counted withArrears(int purse) {
        Counted x = Village.started(3, 0, 10, SusuRing.AGE);
        x.earn(1, purse);
        x.meet(0, true);
        return x;
    }

    private static void leaveWithArrears() {
        Edge.state("of one coin", () -> withArrears(9), x -> x.leave(0, 1));
        Edge.state("of all", () -> withArrears(0), x -> x.leave(0, 1));
        Edge.due("of none", withArrears(10).leave(0, 1), 0);
        Edge.due("paid since", Edge.with(withArrears(0), x -> {
            x.earn(2, 20);
            x.meet(0, true);
        }).leave(0, 2), 0);
        Edge.state("a turn, and arrears", () -> withArrears(10), x -> x.leave(0, 0));
        Edge.due("coins that lack without a meeting", Village.started(2, 0, 10, 1).leave(0, 0), 0);
    }

    private static void leaveInOrder() {
        Edge.index("no circle, and no member", () -> Village.people(2, 5), x -> x.leave(0, 0));
        Edge.index("nobody", () -> Village.started(2, 5, 10, 1), x -> x.leave(0, 2));
        Edge.index("no circle, and with arrears", () -> withArrears(0), x -> x.leave(1, 1));
        Edge.index("nobody, and -1", () -> withArrears(0), x -> x.leave(0, -1));
    }

    /** 2 paid in 20 at the second meeting; with what 0 paid besides, the pot left so much in the box. */
    private static Counted withBox(int purseOf0) {
        Counted x = Village.started(3, 0, 10, SusuRing.AGE);
        x.meet(0, true);
        x.earn(0, purseOf0);
        x.earn(1, 20);
        x.earn(2, 20);
        x.meet(0, true);
        return x;
    }

    private static void checkBack(int purseOf0, int boxBefore, int back, int boxThen) {
        Counted x = withBox(purseOf0);
        Edge.due("paid in", x.member(0, 2, 2), 20);
        Edge.due("the box before", x.ofCircle(0, 0), boxBefore);
        Edge.due("what goes back", x.leave(0, 2), back);
        Edge.due("the box then", x.ofCircle(0, 0), boxThen);
        Edge.due("the purse", x.of(2, 0), back);
        Edge.due("the truth", x.of(2, 4), 20 - back);
        Edge.due("coins()", x.coins(), 0);
    }

    private static void goesBack() {
        checkBack(0, 10, 10, 0);
        checkBack(9, 19, 19, 0);
        checkBack(10, 20, 20, 0);
        checkBack(11, 21, 20, 1);
        checkBack(20, 30, 20, 10);
        Counted x = Edge.with(Village.started(3, 100, 10, SusuRing.AGE), y -> y.meet(0, false));
        Edge.due("an empty box", x.leave(0, 2), 0);
        Edge.due("the purse", x.of(2, 0), 90);
        Edge.due("the truth", x.of(2, 4), 10);
        Counted z = Village.started(3, 100, 10, SusuRing.BID);
        z.want(0, 0, 15, true);
        z.meet(0, false);
        Edge.due("one coin in the box", z.leave(0, 1), 1);
        Counted w = withBox(20);
        Edge.due("nothing was paid in yet", Village.started(2, 100, 10, 1).leave(0, 0), 0);
        Edge.due("two who leave, the first", w.leave(0, 2), 20);
        Edge.due("a new round", w.ofCircle(0, 3), 1);
        Edge.due("nothing was paid in since", w.leave(0, 0), 0);
        Edge.due("the box is left to none", Edge.with(w, y -> y.leave(0, 1)).ofCircle(0, 0), 10);
    }

    private static void sinceTheRoundBegan() {
        Counted x = Village.started(2, 0, 10, SusuRing.AGE);
        x.meet(0, true);
        x.meet(0, true);
        x.earn(0, 100);
        x.earn(1, 100);
        Edge.due("the third meeting", x.meet(0, true), 0);
        Edge.due("arrears of the old round count", x.member(0, 1, 2), 30);
        Edge.due("the box", x.ofCircle(0, 0), 40);
        Edge.due("what goes back", x.leave(0, 1), 30);
        Counted y = Village.started(2, 0, 10, SusuRing.AGE);
        y.meet(0, true);
        y.earn(0, 100);
        y.earn(1, 100);
        y.meet(0, true);
        Edge.due("the box behind the round", y.ofCircle(0, 0), 20);
        Edge.due("what was paid in the old round stays", y.leave(0, 1), 0);
        Edge.due("the box", y.ofCircle(0, 0), 20);
    }

    private static void newRoundByLeaving() {
        Counted x = Village.started(3, 100, 10, SusuRing.AGE);
        x.meet(0, false);
        x.leave(0, 1);
        Edge.due("one of those left had none", x.ofCircle(0, 3), 0);
        Edge.due("the turn stays", x.member(0, 0, 1), 1);
        x.leave(0, 2);
        Edge.due("the one left had a turn", x.ofCircle(0, 3), 1);
        Edge.due("it is a new round", x.member(0, 0, 1), 0);
        Edge.due("nothing is paid in", x.member(0, 0, 2), 0);
        Edge.due("no meeting", x.ofCircle(0, 2), 1);
        Edge.due("the last may leave now", x.leave(0, 0), 0);
        Counted y = Village.started(10, 100, 10, SusuRing.AGE);
        for (int meeting = 0; meeting < 9; meeting++) {
            y.meet(0, false);
        }
        Edge.due("the one of ten without a turn leaves", y.leave(0, 9), 0);
        Edge.due("a new round", y.ofCircle(0, 3), 1);
        Edge.due("the first again", y.meet(0, false), 0);
        Counted z = Village.started(2, 100, 10, SusuRing.AGE);
        z.leave(0, 0);
        Edge.due("no turn at all, no new round", z.ofCircle(0, 3), 0);
    }

    private static void nobodyLeft() {
        for (int way = SusuRing.LOT; way <= SusuRing.BID; way++) {
            Counted x = Village.started(2, 100, 10, way);
            x.leave(0, 0);
            x.leave(0, 1);
            Edge.due("no round ends", x.ofCircle(0, 3), 0);
            Edge.due("no members", x.ofCircle(0, 1), 0);
            Edge.due("nobody has the turn", x.ofCircle(0, 4), SusuRing.NONE);
        }
        Counted y = Village.circle(1, 100, 10, SusuRing.AGE);
        Edge.due("before the start", y.leave(0, 0), 0);
        Edge.due("no round ends", y.ofCircle(0, 3), 0);
    }
}
