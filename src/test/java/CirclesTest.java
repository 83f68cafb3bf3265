/** Promises 5 to 10: circle, enter, start, want, meet, leave. */
public final class CirclesTest {
    private CirclesTest() {
    }

    public static void main(String[] args) {
        circle();
        enter();
        startRefusals();
        startByAge();
        startByLot();
        want();
        meetRefusals();
        meetByNeed();
        meetByBid();
        arrearsAndFines();
        fineOnOneCoin();
        potIsLimited();
        rounds();
        leaveRefusals();
        leavePaysBack();
        leaveEndsRound();
        lastOneLeaves();
        Check.end("CirclesTest");
    }

    private static Counted people(int count, int earned) {
        Counted x = new Counted();
        for (int p = 0; p < count; p++) {
            x.person(30, p);
            x.earn(p, earned);
        }
        return x;
    }

    private static Counted started(int members, int earned, int sum, int way) {
        Counted x = people(members, earned);
        x.circle(sum, way);
        for (int p = 0; p < members; p++) {
            x.enter(0, p);
        }
        x.start(0, 0);
        return x;
    }

    private static void circle() {
        Counted x = new Counted();
        Check.badArgument(x, "circle(0, 0)", o -> o.circle(0, 0));
        Check.badArgument(x, "circle(-1, 0)", o -> o.circle(-1, 0));
        Check.badArgument(x, "circle(1001, 0)", o -> o.circle(1001, 0));
        Check.badArgument(x, "circle(1, -1)", o -> o.circle(1, -1));
        Check.badArgument(x, "circle(1, 4)", o -> o.circle(1, 4));
        Check.due("circle(1, LOT)", x.circle(1, SusuRing.LOT), 0);
        Check.due("circle(1000, AGE)", x.circle(1000, SusuRing.AGE), 1);
        Check.due("circle(5, NEED)", x.circle(5, SusuRing.NEED), 2);
        Check.due("circle(5, BID)", x.circle(5, SusuRing.BID), 3);
        for (int what = 0; what <= 3; what++) {
            Check.due("ofCircle(3, " + what + ")", x.ofCircle(3, what), 0);
        }
        Check.due("ofCircle(3, 4)", x.ofCircle(3, 4), SusuRing.NONE);
        Check.badState(x, "a fifth circle", o -> o.circle(1, 0));
        Check.badArgument(x, "a fifth circle of way 4", o -> o.circle(1, 4));
    }

    private static void enter() {
        Counted x = people(13, 0);
        x.circle(5, SusuRing.NEED);
        Check.outOfIndex(x, "enter(1, 0)", o -> o.enter(1, 0));
        Check.outOfIndex(x, "enter(-1, 0)", o -> o.enter(-1, 0));
        Check.outOfIndex(x, "enter(0, 13)", o -> o.enter(0, 13));
        Check.outOfIndex(x, "enter(0, -1)", o -> o.enter(0, -1));
        x.die(12, 0);
        Check.badState(x, "the dead", o -> o.enter(0, 12));
        for (int p = 0; p < 10; p++) {
            Check.due("enter(0, " + (9 - p) + ")", x.enter(0, 9 - p), p + 1);
        }
        for (int p = 0; p < 10; p++) {
            Check.due("place of " + p, x.member(0, p, 3), 9 - p);
        }
        Check.badState(x, "an eleventh", o -> o.enter(0, 10));
        x.leave(0, 5);
        Check.badState(x, "a member", o -> o.enter(0, 4));
        Check.due("enter(0, 10)", x.enter(0, 10), 10);
        Check.due("the last place", x.member(0, 10, 3), 9);
        Check.due("the place of 4 moved on", x.member(0, 4, 3), 4);
        x.leave(0, 10);
        x.start(0, 0);
        Check.badState(x, "a started circle", o -> o.enter(0, 10));
        Check.outOfIndex(x, "enter(0, 13) into a started circle", o -> o.enter(0, 13));
    }

    private static void startRefusals() {
        Counted x = people(3, 0);
        x.circle(5, SusuRing.AGE);
        Check.outOfIndex(x, "start(1, 0)", o -> o.start(1, 0));
        Check.outOfIndex(x, "start(-1, -1)", o -> o.start(-1, -1));
        Check.badArgument(x, "start(0, -1)", o -> o.start(0, -1));
        Check.badArgument(x, "start(0, 10000)", o -> o.start(0, 10000));
        Check.badState(x, "start without members", o -> o.start(0, 0));
        x.enter(0, 2);
        Check.badState(x, "start with one member", o -> o.start(0, 0));
        x.enter(0, 0);
        Check.due("start(0, 9999)", x.start(0, 9999), 2);
        Check.badState(x, "start again", o -> o.start(0, 0));
        Check.badArgument(x, "start again with seed -1", o -> o.start(0, -1));
        x.circle(5, SusuRing.NEED);
        x.circle(5, SusuRing.BID);
        for (int c = 1; c <= 2; c++) {
            x.enter(c, 1);
            x.enter(c, 2);
            Check.due("start(" + c + ", 3)", x.start(c, 3), SusuRing.NONE);
            Check.due("who would have the turn", x.ofCircle(c, 4), 1);
        }
    }

    private static void startByAge() {
        Counted x = new Counted();
        int[] ages = {40, 70, 20, 70, 1, 120, 40};
        for (int p = 0; p < ages.length; p++) {
            x.person(ages[p], p);
        }
        x.circle(5, SusuRing.AGE);
        int[] entering = {6, 3, 4, 0, 1, 5, 2};
        for (int p : entering) {
            x.enter(0, p);
        }
        Check.due("start", x.start(0, 17), 5);
        int[] due = {5, 3, 1, 6, 0, 2, 4, 5};
        for (int p : due) {
            Check.due("the turn by age", x.meet(0, false), p);
        }
    }

    private static void startByLot() {
        lot(5, new int[] {3, 2, 0, 1}, new int[] {2, 3, 1, 0});
        // 7: 7 % 5 = 2 of 0 1 2 3 4; 38 % 4 = 2 of 0 1 3 4; 69 % 3 = 0 of 0 1 4; 100 % 2 = 0 of 1 4
        lot(7, new int[] {0, 1, 2, 3, 4}, new int[] {2, 3, 0, 1, 4});
        // 9999: 9999 % 3 = 0 of 2 1 0; 10030 % 2 = 0 of 1 0
        lot(9999, new int[] {2, 1, 0}, new int[] {2, 1, 0});
        // 1: 1 % 3 = 1 of 2 1 0; 32 % 2 = 0 of 2 0
        lot(1, new int[] {2, 1, 0}, new int[] {1, 2, 0});
    }

    private static void lot(int seed, int[] entering, int[] due) {
        Counted x = people(entering.length, 0);
        x.circle(5, SusuRing.LOT);
        for (int p : entering) {
            x.enter(0, p);
        }
        Check.due("start(0, " + seed + ")", x.start(0, seed), due[0]);
        for (int i = 0; i < 2 * due.length; i++) {
            Check.due("who would have the turn", x.ofCircle(0, 4), due[i % due.length]);
            Check.due("the turn by lot", x.meet(0, false), due[i % due.length]);
        }
        Check.due("rounds", x.ofCircle(0, 3), 2);
    }

    private static void want() {
        Counted x = people(3, 100);
        x.circle(5, SusuRing.NEED);
        x.enter(0, 0);
        x.enter(0, 1);
        Check.outOfIndex(x, "want(1, 0, 1, true)", o -> o.want(1, 0, 1, true));
        Check.outOfIndex(x, "want(0, 3, -1, true)", o -> o.want(0, 3, -1, true));
        Check.badArgument(x, "want(0, 0, -1, true)", o -> o.want(0, 0, -1, true));
        Check.badArgument(x, "want(0, 2, 10001, false)", o -> o.want(0, 2, 10001, false));
        Check.badState(x, "want of no member", o -> o.want(0, 2, 1, false));
        Check.due("need", x.want(0, 0, 10000, false), 0);
        Check.due("bid", x.want(0, 0, 5, true), 0);
        Check.due("need", x.want(0, 0, 3, false), 10000);
        Check.due("bid", x.want(0, 0, 0, true), 5);
        Check.due("bid", x.want(0, 0, 6, true), 0);
        Check.due("another's need", x.want(0, 1, 4, false), 0);
        x.start(0, 0);
        Check.due("the greatest need", x.meet(0, false), 1);
        Check.due("the need stays", x.want(0, 1, 4, false), 4);
        Check.due("the bid is 0 behind a meeting", x.want(0, 0, 0, true), 0);
    }

    private static void meetRefusals() {
        Counted x = people(3, 100);
        x.circle(5, SusuRing.AGE);
        x.enter(0, 0);
        x.enter(0, 1);
        Check.outOfIndex(x, "meet(1, false)", o -> o.meet(1, false));
        Check.outOfIndex(x, "meet(-1, false)", o -> o.meet(-1, false));
        Check.badState(x, "meet before the start", o -> o.meet(0, false));
        x.start(0, 0);
        x.leave(0, 1);
        Check.badState(x, "meet of one member", o -> o.meet(0, true));
        Check.due("who would have the turn", x.ofCircle(0, 4), 0);
    }

    private static void meetByNeed() {
        Counted x = started(4, 100, 5, SusuRing.NEED);
        x.want(0, 2, 9, false);
        x.want(0, 3, 9, false);
        x.want(0, 1, 10, false);
        x.want(0, 0, 100, true);
        Check.due("the greatest need", x.meet(0, false), 1);
        Check.due("of the same who entered first", x.meet(0, false), 2);
        Check.due("who had none", x.meet(0, false), 3);
        Check.due("who has no need", x.meet(0, false), 0);
        Check.due("needs stay", x.meet(0, false), 1);
        Check.due("meetings", x.ofCircle(0, 2), 5);
        Check.due("no discount", x.ofCircle(0, 0), 0);
        Check.due("coins()", x.coins(), 0);
    }

    private static void meetByBid() {
        Counted x = started(4, 100, 7, SusuRing.BID);
        x.want(0, 3, 8, true);
        x.want(0, 1, 8, true);
        x.want(0, 0, 9999, false);
        Check.due("the greatest bid", x.meet(0, false), 1);
        Check.due("the pot less the discount", x.of(1, 0), 100 - 7 + 28 - 8);
        Check.due("a third of the discount", x.of(0, 0), 100 - 7 + 2);
        Check.due("a third of the discount", x.of(3, 0), 100 - 7 + 2);
        Check.due("what is left of the discount", x.ofCircle(0, 0), 2);
        Check.due("the truth of who had the turn", x.of(1, 4), 7 - 20);
        Check.due("the truth of another", x.of(0, 4), 5);
        x.want(0, 2, 10000, true);
        Check.due("the greatest bid", x.meet(0, false), 2);
        Check.due("the discount is at most half of the pot", x.of(2, 0), 95 - 7 + 14);
        Check.due("a third of that", x.of(3, 0), 95 - 7 + 4);
        Check.due("the box", x.ofCircle(0, 0), 2 + 2);
        Check.due("bids are gone", x.meet(0, false), 0);
        Check.due("no discount", x.of(0, 0), 92 - 7 + 28);
        Check.due("the last", x.meet(0, false), 3);
        Check.due("rounds", x.ofCircle(0, 3), 1);
        Check.due("coins()", x.coins(), 0);
        oddPot();
    }

    /** A pot of 3 has a half of 1; and one other member gets the whole discount. */
    private static void oddPot() {
        Counted x = started(2, 0, 3, SusuRing.BID);
        x.earn(0, 3);
        x.want(0, 1, 10, true);
        Check.due("meet", x.meet(0, false), 1);
        Check.due("the pot less half of it", x.of(1, 0), 2);
        Check.due("the other gets the discount", x.of(0, 0), 1);
        Check.due("arrears", x.member(0, 1, 0), 3);
        x.circle(5, SusuRing.AGE);
        x.enter(1, 0);
        x.enter(1, 1);
        x.start(1, 0);
        x.want(1, 0, 4, true);
        x.want(0, 0, 4, true);
        Check.due("by age there is no discount", x.meet(1, false), 0);
        Check.due("no discount", x.of(0, 0), 3);
        Check.due("the other circle's bid stays", x.want(0, 0, 0, true), 4);
    }

    private static void arrearsAndFines() {
        Counted x = started(3, 1000, 109, SusuRing.AGE);
        x.earn(2, -1000);
        x.earn(1, -891);
        Check.due("meet moved", x.meet(0, true), 0);
        Check.due("no fine on a moved day", x.member(0, 2, 0), 109);
        Check.due("who paid all", x.member(0, 1, 0), 0);
        Check.due("the pot", x.of(0, 0), 1000 - 109 + 218);
        Check.due("meet", x.meet(0, false), 1);
        Check.due("a tenth of the sum more", x.member(0, 2, 0), 228);
        Check.due("1 could not pay", x.member(0, 1, 0), 119);
        Check.due("the pot is what is in the box", x.of(1, 0), 109);
        x.earn(2, 300);
        Check.due("meet", x.meet(0, false), 2);
        Check.due("what is left with the fine", x.member(0, 2, 0), 109 + 228 - 300 + 10);
        Check.due("1 paid 109 of 228", x.member(0, 1, 0), 119 + 10);
        Check.due("the pot is at most three sums", x.of(2, 0), 327);
        Check.due("the box", x.ofCircle(0, 0), 109 + 300 + 109 - 327);
        Check.due("the truth", x.of(2, 4), 300 - 327);
        Check.due("rounds", x.ofCircle(0, 3), 1);
        Check.due("arrears stay with a new round", x.member(0, 1, 0), 129);
        Check.due("coins()", x.coins(), 0);
    }

    private static void fineOnOneCoin() {
        Counted x = started(2, 100, 10, SusuRing.AGE);
        x.earn(0, -91);
        x.earn(1, -90);
        x.meet(0, false);
        Check.due("one coin of arrears, and the fine", x.member(0, 0, 0), 2);
        Check.due("no arrears, no fine", x.member(0, 1, 0), 0);
    }

    private static void potIsLimited() {
        Counted x = started(2, 0, 10, SusuRing.NEED);
        x.meet(0, false);
        Check.due("an empty pot", x.of(0, 0), 0);
        x.earn(0, 100);
        x.earn(1, 100);
        Check.due("arrears", x.member(0, 0, 0), 11);
        Check.due("meet", x.meet(0, false), 1);
        Check.due("both paid 21, the pot is 20", x.of(1, 0), 100 - 21 + 20);
        Check.due("the rest stays in the box", x.ofCircle(0, 0), 22);
        Check.due("no arrears", x.member(0, 1, 0), 0);
    }

    private static void rounds() {
        Counted x = started(3, 100, 10, SusuRing.LOT);
        Check.due("meet", x.meet(0, false), 0);
        Check.due("turn of 0", x.member(0, 0, 1), 1);
        Check.due("turn of 1", x.member(0, 1, 1), 0);
        Check.due("paid in", x.member(0, 1, 2), 10);
        x.meet(0, false);
        Check.due("paid in", x.member(0, 0, 2), 20);
        Check.due("rounds", x.ofCircle(0, 3), 0);
        x.meet(0, false);
        Check.due("rounds", x.ofCircle(0, 3), 1);
        for (int p = 0; p < 3; p++) {
            Check.due("turn in the new round", x.member(0, p, 1), 0);
            Check.due("paid in since it began", x.member(0, p, 2), 0);
        }
        Check.due("meetings", x.ofCircle(0, 2), 3);
    }

    private static void leaveRefusals() {
        Counted x = started(3, 100, 100, SusuRing.AGE);
        x.person(30, 7);
        Check.outOfIndex(x, "leave(1, 0)", o -> o.leave(1, 0));
        Check.outOfIndex(x, "leave(0, 4)", o -> o.leave(0, 4));
        Check.outOfIndex(x, "leave(0, -1)", o -> o.leave(0, -1));
        Check.badState(x, "leave of no member", o -> o.leave(0, 3));
        x.earn(2, -1);
        x.meet(0, true);
        Check.badState(x, "leave behind the turn", o -> o.leave(0, 0));
        Check.badState(x, "leave with arrears", o -> o.leave(0, 2));
        Check.due("leave(0, 1)", x.leave(0, 1), 0);
    }

    private static void leavePaysBack() {
        Counted x = started(4, 0, 10, SusuRing.AGE);
        x.meet(0, true);
        for (int p = 0; p < 4; p++) {
            x.earn(p, 100);
        }
        Check.due("meet", x.meet(0, true), 1);
        Check.due("the box", x.ofCircle(0, 0), 40);
        Check.due("paid in by 2", x.member(0, 2, 2), 20);
        Check.due("leave(0, 2)", x.leave(0, 2), 20);
        Check.due("the purse", x.of(2, 0), 100);
        Check.due("the truth", x.of(2, 4), 0);
        Check.due("the box", x.ofCircle(0, 0), 20);
        Check.due("no member", x.member(0, 2, 0), SusuRing.NONE);
        Check.due("members", x.ofCircle(0, 1), 3);
        Check.due("the place of 3", x.member(0, 3, 3), 2);
        Check.due("the next one in order", x.ofCircle(0, 4), 3);
        Check.badState(x, "leave again", o -> o.leave(0, 2));
        Check.due("coins()", x.coins(), 0);
        beforeTheStart();
    }

    private static void beforeTheStart() {
        Counted x = people(2, 100);
        x.circle(10, SusuRing.LOT);
        x.enter(0, 0);
        Check.due("leave before the start", x.leave(0, 0), 0);
        Check.due("members", x.ofCircle(0, 1), 0);
        Check.due("rounds", x.ofCircle(0, 3), 0);
        Check.due("enter again", x.enter(0, 0), 1);
    }

    private static void leaveEndsRound() {
        Counted x = started(3, 100, 10, SusuRing.AGE);
        x.meet(0, false);
        x.meet(0, false);
        Check.due("leave(0, 2) from an empty box", x.leave(0, 2), 0);
        Check.due("rounds", x.ofCircle(0, 3), 1);
        Check.due("turn of 0", x.member(0, 0, 1), 0);
        Check.due("paid in by 1", x.member(0, 1, 2), 0);
        Check.due("meetings", x.ofCircle(0, 2), 2);
        Check.due("next", x.ofCircle(0, 4), 0);
    }

    private static void lastOneLeaves() {
        for (int way = SusuRing.LOT; way <= SusuRing.BID; way++) {
            lastOneLeaves(way);
        }
    }

    private static void lastOneLeaves(int way) {
        Counted x = started(2, 100, 10, way);
        x.leave(0, 0);
        Check.due("rounds", x.ofCircle(0, 3), 0);
        Check.due("leave of the last", x.leave(0, 1), 0);
        Check.due("no round ends without members", x.ofCircle(0, 3), 0);
        Check.due("members", x.ofCircle(0, 1), 0);
        Check.due("nobody has the turn", x.ofCircle(0, 4), SusuRing.NONE);
        Check.badState(x, "enter a started circle", o -> o.enter(0, 0));
        Check.badState(x, "start again", o -> o.start(0, 0));
        Check.badState(x, "meet without members", o -> o.meet(0, false));
    }
}
