/** Objects as the tests of the boundaries begin with them. */
final class Village {
    private Village() {
    }

    /** A name for each of 16 people, so that no two are of one house. */
    static int nameOf(int person) {
        return person < 10 ? person * 11111 : (person - 10) * 11111 + 11;
    }

    /** People of 30 years, each of a house of the own. */
    static Counted people(int count, int purse) {
        Counted x = new Counted();
        for (int p = 0; p < count; p++) {
            x.person(30, nameOf(p));
            x.earn(p, purse);
        }
        return x;
    }

    static void enterAll(Counted x, int circle, int members) {
        for (int p = 0; p < members; p++) {
            x.enter(circle, p);
        }
    }

    /** A circle that has not started, of all its people, who enter as they are numbered. */
    static Counted circle(int members, int purse, int sum, int way) {
        Counted x = people(members, purse);
        x.circle(sum, way);
        enterAll(x, 0, members);
        return x;
    }

    static Counted started(int members, int purse, int sum, int way) {
        Counted x = circle(members, purse, sum, way);
        x.start(0, 0);
        return x;
    }

    /** People with shares, and with what is left in the purse behind buying them. */
    static Counted holders(int count, int shares, int left) {
        Counted x = people(count, shares * 10 + left);
        for (int p = 0; p < count; p++) {
            x.buy(p, shares);
        }
        return x;
    }

    static void months(Counted x, int count) {
        for (int month = 0; month < count; month++) {
            x.month(false);
        }
    }

    /** Borrows a coin and pays it back, so often. */
    static void payBackLoans(Counted x, int count, int person, int first, int second) {
        for (int loan = 0; loan < count; loan++) {
            x.borrow(person, 1, first, second);
            x.repay(person, 1);
        }
    }

    static int debtAfter(int debt, int months) {
        int owed = debt;
        for (int month = 0; month < months; month++) {
            owed += owed % 20 == 0 ? owed / 20 : owed / 20 + 1;
        }
        return owed;
    }
}
