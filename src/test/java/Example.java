public final class Example {
    public static void main(String[] args) {
        SusuRing village = new SusuRing();
        int ama = village.person(40, 12345);
        int kofi = village.person(30, 54321);
        int esi = village.person(25, 54320); // of one house with kofi
        int circle = village.circle(100, SusuRing.AGE);
        for (int person = ama; person <= esi; person++) {
            village.earn(person, 500);
            village.buy(person, 10); // for 10 coins each
            village.enter(circle, person);
        }
        village.start(circle, 0);
        int turn = village.meet(circle, false);
        System.out.println("person " + turn + " has the turn, and " + village.of(turn, 0) + " coins");

        village.borrow(kofi, 50, ama, esi);
        village.month(false);
        System.out.println("kofi owes " + village.of(kofi, 2));
        village.repay(kofi, 10000);
        System.out.println("each share gets " + village.feast() + " coins at the feast");

        village.note(0, ama, -200);
        System.out.println("the book is right about ama, the first one it is wrong about is " + village.audit(0));
        try {
            village.buy(esi, 101);
        } catch (IllegalArgumentException e) {
            System.out.println("nobody buys 101 shares");
        }
    }
}
