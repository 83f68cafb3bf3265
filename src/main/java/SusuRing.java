import java.util.ArrayList;

/**
 * Savings that go round: circles whose members pay at each meeting, a village fund with shares and
 * loans, deaths with heirs, feasts, and books that are audited.
 */
public final class SusuRing {
    /** There is none. */
    public static final int NONE = -1;
    /** Ways to give turns. */
    public static final int LOT = 0, AGE = 1, NEED = 2, BID = 3;

    private static final int MOST_PEOPLE = 16;
    private static final int HIGHEST_AGE = 120;
    private static final int HIGHEST_NAME = 99999;
    private static final int FIGURES = 5;
    private static final int MOST_EARNED = 10000;
    private static final int FULL_PURSE = 10000000;

    private static final int MOST_CIRCLES = 4;
    private static final int MOST_MEMBERS = 10;
    private static final int FEWEST_MEMBERS = 2;
    private static final int HIGHEST_SUM = 1000;
    private static final int HIGHEST_SEED = 9999;
    private static final int HIGHEST_WANT = 10000;

    private static final int SHARE_PRICE = 10;
    private static final int MOST_SHARES = 100;
    private static final int HIGHEST_LOAN = 1000;
    private static final int LOAN_STEP = 50;
    private static final int HOUSE_LIMIT = 500;
    private static final int HIGHEST_REPAID = 10000;
    private static final int LOAN_MONTHS = 6;

    private static final int BOOKS = 3;
    private static final int HIGHEST_NOTE = 10000;

    private final ArrayList<Person> people;
    private final ArrayList<Circle> circles;
    private int fundCash;
    /** All that was earned less all that was spent. */
    private int earned;

    public SusuRing() {
        people = new ArrayList<>();
        circles = new ArrayList<>();
    }

    // ---- people

    public int person(int age, int name) throws IllegalArgumentException, IllegalStateException {
        checkRange(age, 1, HIGHEST_AGE);
        checkRange(name, 0, HIGHEST_NAME);
        if (people.size() >= MOST_PEOPLE) {
            throw new IllegalStateException("there are 16 people");
        }
        Person told = new Person(people.size(), age, name);
        people.add(told);
        return told.number;
    }

    public int earn(int person, int amount)
            throws IndexOutOfBoundsException, IllegalArgumentException, IllegalStateException {
        Person earner = personAt(person);
        checkRange(amount, -MOST_EARNED, MOST_EARNED);
        int purse = earner.purse + amount;
        if (earner.dead || purse < 0 || purse > FULL_PURSE) {
            throw new IllegalStateException("dead, or the purse has too little or too much");
        }
        earner.purse = purse;
        earned += amount;
        return purse;
    }

    public int die(int person, int heir)
            throws IndexOutOfBoundsException, IllegalArgumentException, IllegalStateException {
        Person dying = personAt(person);
        Person inheritor = personAt(heir);
        if (person == heir) {
            throw new IllegalArgumentException("nobody is the own heir");
        }
        if (dying.dead || inheritor.dead || dying.shares + inheritor.shares > MOST_SHARES) {
            throw new IllegalStateException("one is dead, or the heir would have too many shares");
        }
        dying.bequeath(inheritor);
        int places = 0;
        for (int i = 0; i < circles.size(); i++) {
            if (circles.get(i).passOn(dying, inheritor)) {
                places++;
            }
        }
        return places;
    }

    // ---- circles

    public int circle(int sum, int way) throws IllegalArgumentException, IllegalStateException {
        checkRange(sum, 1, HIGHEST_SUM);
        checkRange(way, LOT, BID);
        if (circles.size() >= MOST_CIRCLES) {
            throw new IllegalStateException("there are 4 circles");
        }
        circles.add(new Circle(sum, way));
        return circles.size() - 1;
    }

    public int enter(int circle, int person) throws IndexOutOfBoundsException, IllegalStateException {
        Circle entered = circleAt(circle);
        Person entrant = personAt(person);
        if (entered.started || entered.places.size() >= MOST_MEMBERS) {
            throw new IllegalStateException("the circle has started, or is full");
        }
        if (entrant.dead || entered.placeOf(entrant) != null) {
            throw new IllegalStateException("the person is dead, or a member");
        }
        entered.places.add(new Place(entrant));
        return entered.places.size();
    }

    public int start(int circle, int seed)
            throws IndexOutOfBoundsException, IllegalArgumentException, IllegalStateException {
        Circle begun = circleAt(circle);
        checkRange(seed, 0, HIGHEST_SEED);
        if (begun.started || begun.places.size() < FEWEST_MEMBERS) {
            throw new IllegalStateException("the circle has started, or too few members");
        }
        begun.started = true;
        begun.makeOrder(seed);
        return begun.hasOrder() ? numberAt(begun.upNext()) : NONE;
    }

    public int want(int circle, int person, int amount, boolean isBid)
            throws IndexOutOfBoundsException, IllegalArgumentException, IllegalStateException {
        Circle wanted = circleAt(circle);
        Person wanting = personAt(person);
        checkRange(amount, 0, HIGHEST_WANT);
        Place place = wanted.placeOf(wanting);
        if (place == null) {
            throw new IllegalStateException("the person is no member");
        }
        return isBid ? place.changeBid(amount) : place.changeNeed(amount);
    }

    public int meet(int circle, boolean moved) throws IndexOutOfBoundsException, IllegalStateException {
        Circle meeting = circleAt(circle);
        if (!meeting.started || meeting.places.size() < FEWEST_MEMBERS) {
            throw new IllegalStateException("the circle has not started, or too few members");
        }
        meeting.collect(moved);
        Place turn = meeting.upNext();
        meeting.payOut(turn);
        meeting.meetings++;
        meeting.clearBids();
        meeting.endRoundIfAllHadTurns();
        return numberAt(turn);
    }

    public int leave(int circle, int person) throws IndexOutOfBoundsException, IllegalStateException {
        Circle quitted = circleAt(circle);
        Person leaving = personAt(person);
        Place place = quitted.placeOf(leaving);
        if (place == null || place.hadTurn || place.arrears > 0) {
            throw new IllegalStateException("no member, or with a turn or arrears");
        }
        int back = Math.min(place.paidIn, quitted.box);
        quitted.giveOut(place, back);
        quitted.removePlace(place);
        return back;
    }

    // ---- the fund

    public int buy(int person, int shares)
            throws IndexOutOfBoundsException, IllegalArgumentException, IllegalStateException {
        Person buyer = personAt(person);
        checkRange(shares, 1, MOST_SHARES);
        int price = shares * SHARE_PRICE;
        if (buyer.dead || buyer.shares + shares > MOST_SHARES || buyer.purse < price) {
            throw new IllegalStateException("dead, too many shares, or too little in the purse");
        }
        buyer.shares += shares;
        payFund(buyer, price);
        return buyer.shares;
    }

    public int borrow(int person, int amount, int first, int second)
            throws IndexOutOfBoundsException, IllegalArgumentException, IllegalStateException {
        Person borrower = personAt(person);
        Person one = personAt(first);
        Person other = personAt(second);
        if (person == first || person == second || first == second) {
            throw new IllegalArgumentException("two of the three are the same");
        }
        checkRange(amount, 1, HIGHEST_LOAN);
        if (!borrower.hasShare() || !one.hasShare() || !other.hasShare()) {
            throw new IllegalStateException("one of the three is dead, or has no share");
        }
        if (borrower.hasLoan() || amount > highestLoan(borrower) || amount > fundCash) {
            throw new IllegalStateException("there is a loan, or the amount is too high");
        }
        borrower.takeLoan(amount, one, other);
        fundCash -= amount;
        return borrower.purse;
    }

    public int repay(int person, int amount)
            throws IndexOutOfBoundsException, IllegalArgumentException, IllegalStateException {
        Person debtor = personAt(person);
        checkRange(amount, 1, HIGHEST_REPAID);
        int paid = Math.min(amount, debtor.debt);
        if (!debtor.hasLoan() || debtor.purse < paid) {
            throw new IllegalStateException("there is no loan, or too little in the purse");
        }
        payFund(debtor, paid);
        debtor.debt -= paid;
        if (!debtor.hasLoan()) {
            debtor.paidBack++;
        }
        return debtor.debt;
    }

    public int month(boolean drought) {
        if (drought) {
            return 0;
        }
        int defaults = 0;
        for (int i = 0; i < people.size(); i++) {
            Person debtor = people.get(i);
            if (debtor.hasLoan()) {
                debtor.ageLoan();
                if (debtor.loanMonths > LOAN_MONTHS) {
                    defaultLoan(debtor);
                    defaults++;
                }
            }
        }
        return defaults;
    }

    public int feast() throws IllegalStateException {
        int shares = 0;
        boolean loans = false;
        for (int i = 0; i < people.size(); i++) {
            shares += people.get(i).shares;
            loans = loans || people.get(i).hasLoan();
        }
        if (shares <= 0 || loans) {
            throw new IllegalStateException("there are no shares, or somebody has a loan");
        }
        int each = fundCash / shares;
        for (int i = 0; i < people.size(); i++) {
            Person guest = people.get(i);
            fundCash -= each * guest.shares;
            guest.getOut(each * guest.shares);
            guest.shares = 0;
        }
        return each;
    }

    // ---- books

    public int note(int book, int person, int amount)
            throws IndexOutOfBoundsException, IllegalArgumentException {
        if (book < 0 || book >= BOOKS) {
            throw new IndexOutOfBoundsException("there is no such book");
        }
        Person noted = personAt(person);
        checkRange(amount, -HIGHEST_NOTE, HIGHEST_NOTE);
        noted.notes[book] += amount;
        return noted.notes[book];
    }

    public int audit(int book) throws IndexOutOfBoundsException {
        if (book < 0 || book >= BOOKS) {
            throw new IndexOutOfBoundsException("there is no such book");
        }
        for (int i = 0; i < people.size(); i++) {
            Person noted = people.get(i);
            if (noted.notes[book] != noted.truth) {
                return noted.number;
            }
        }
        return NONE;
    }

    // ---- what is asked

    public int of(int person, int what) throws IndexOutOfBoundsException, IllegalArgumentException {
        Person asked = personAt(person);
        checkRange(what, 0, 6);
        switch (what) {
            case 0: return asked.purse;
            case 1: return asked.shares;
            case 2: return asked.debt;
            case 3: return asked.paidBack;
            case 4: return asked.truth;
            case 5: return asked.dead ? 0 : 1;
            default: return houseSize(asked);
        }
    }

    public int member(int circle, int person, int what)
            throws IndexOutOfBoundsException, IllegalArgumentException {
        Circle asked = circleAt(circle);
        Person whom = personAt(person);
        checkRange(what, 0, 3);
        Place place = asked.placeOf(whom);
        if (place == null) {
            return NONE;
        }
        switch (what) {
            case 0: return place.arrears;
            case 1: return place.hadTurn ? 1 : 0;
            case 2: return place.paidIn;
            default: return asked.indexOf(whom);
        }
    }

    public int ofCircle(int circle, int what) throws IndexOutOfBoundsException, IllegalArgumentException {
        Circle asked = circleAt(circle);
        checkRange(what, 0, 4);
        switch (what) {
            case 0: return asked.box;
            case 1: return asked.places.size();
            case 2: return asked.meetings;
            case 3: return asked.rounds;
            default: return asked.started ? numberAt(asked.upNext()) : NONE;
        }
    }

    public int cash() {
        return fundCash;
    }

    public int coins() {
        int missing = earned - fundCash;
        for (int i = 0; i < people.size(); i++) {
            missing -= people.get(i).purse;
        }
        for (int i = 0; i < circles.size(); i++) {
            missing -= circles.get(i).box;
        }
        return missing;
    }

    private Person personAt(int number) {
        if (number < 0 || number >= people.size()) {
            throw new IndexOutOfBoundsException("there is no such person");
        }
        return people.get(number);
    }

    private Circle circleAt(int number) {
        if (number < 0 || number >= circles.size()) {
            throw new IndexOutOfBoundsException("there is no such circle");
        }
        return circles.get(number);
    }

    private static void checkRange(int value, int lowest, int highest) {
        if (value < lowest || value > highest) {
            throw new IllegalArgumentException("an argument is out of its range");
        }
    }

    private static int numberAt(Place place) {
        return place == null ? NONE : place.holder.number;
    }

    private void payFund(Person payer, int amount) {
        payer.payIn(amount);
        fundCash += amount;
    }

    private int highestLoan(Person borrower) {
        return Math.min(LOAN_STEP * (1 + borrower.paidBack), HOUSE_LIMIT - houseDebts(borrower));
    }

    private int houseDebts(Person person) {
        int debts = 0;
        for (int i = 0; i < people.size(); i++) {
            Person other = people.get(i);
            if (!other.dead && other.isOfHouse(person)) {
                debts += other.debt;
            }
        }
        return debts;
    }

    private int houseSize(Person person) {
        int living = 0;
        for (int i = 0; i < people.size(); i++) {
            Person other = people.get(i);
            if (!other.dead && other.isOfHouse(person)) {
                living++;
            }
        }
        return living;
    }

    private void defaultLoan(Person debtor) {
        int half = debtor.debt / 2;
        int rest = debtor.debt - half;
        payForOther(debtor.first, half);
        payForOther(debtor.second, rest);
        debtor.debt = 0;
        debtor.paidBack = 0;
    }

    private void payForOther(Person voucher, int due) {
        if (voucher != null && !voucher.dead) {
            payFund(voucher, Math.min(due, voucher.purse));
        }
    }

    private static final class Person {
        final int number;
        final int age;
        final int name;
        /** What each book tells of this person. */
        final int[] notes;
        int purse;
        int shares;
        /** Above 0 just while there is a loan; what stands of the loan below counts only then. */
        int debt;
        int loanMonths;
        Person first;
        Person second;
        int paidBack;
        /** All that was paid into boxes and the fund, less all that was got out of these. */
        int truth;
        boolean dead;

        Person(int number, int age, int name) {
            this.number = number;
            this.age = age;
            this.name = name;
            notes = new int[BOOKS];
        }

        boolean hasShare() {
            return !dead && shares > 0;
        }

        boolean hasLoan() {
            return debt > 0;
        }

        boolean isOfHouse(Person other) {
            int mine = name;
            int theirs = other.name;
            int differing = 0;
            for (int i = 0; i < FIGURES; i++) {
                if (mine % 10 != theirs % 10) {
                    differing++;
                }
                mine /= 10;
                theirs /= 10;
            }
            return differing <= 1;
        }

        void payIn(int amount) {
            purse -= amount;
            truth += amount;
        }

        void getOut(int amount) {
            purse += amount;
            truth -= amount;
        }

        void takeLoan(int amount, Person one, Person other) {
            debt = amount;
            loanMonths = 0;
            first = one;
            second = other;
            getOut(amount);
        }

        void ageLoan() {
            debt += (debt + 19) / 20;
            loanMonths++;
        }

        void bequeath(Person heir) {
            heir.purse += purse;
            heir.shares += shares;
            if (!heir.hasLoan()) {
                heir.loanMonths = loanMonths;
                heir.first = first;
                heir.second = second;
            }
            heir.debt += debt;
            purse = 0;
            shares = 0;
            debt = 0;
            dead = true;
        }
    }

    /** A member's place in a circle: it outlives the member who holds it. */
    private static final class Place {
        Person holder;
        int arrears;
        int need;
        int bid;
        /** What was paid in since the round began. */
        int paidIn;
        boolean hadTurn;

        Place(Person holder) {
            this.holder = holder;
        }

        int changeNeed(int amount) {
            int before = need;
            need = amount;
            return before;
        }

        int changeBid(int amount) {
            int before = bid;
            bid = amount;
            return before;
        }

        int rank(int way) {
            return way == NEED ? need : bid;
        }
    }

    private static final class Circle {
        final int sum;
        final int way;
        /** In the order of entering. */
        final ArrayList<Place> places;
        /** In the order of the turns, by LOT and by AGE; otherwise empty. */
        final ArrayList<Place> order;
        boolean started;
        int box;
        int meetings;
        int rounds;

        Circle(int sum, int way) {
            this.sum = sum;
            this.way = way;
            places = new ArrayList<>();
            order = new ArrayList<>();
        }

        boolean hasOrder() {
            return way == LOT || way == AGE;
        }

        int indexOf(Person person) {
            for (int i = 0; i < places.size(); i++) {
                if (places.get(i).holder == person) {
                    return i;
                }
            }
            return NONE;
        }

        Place placeOf(Person person) {
            int index = indexOf(person);
            return index >= 0 && index < places.size() ? places.get(index) : null;
        }

        /** Those not yet placed stand behind the placed ones, still in the order of entering. */
        void makeOrder(int seed) {
            for (int i = 0; i < places.size() && hasOrder(); i++) {
                order.add(places.get(i));
            }
            int members = order.size();
            for (int placed = 0; placed < members; placed++) {
                int chosen = way == LOT ? drawn(seed, placed) : eldest(placed);
                if (chosen >= placed && chosen < order.size()) {
                    Place next = order.get(chosen);
                    order.remove(chosen);
                    order.add(placed, next);
                }
            }
        }

        int drawn(int seed, int placed) {
            int left = order.size() - placed;
            return left > 0 ? placed + (seed + 31 * placed) % left : placed;
        }

        int eldest(int placed) {
            int best = placed;
            int bestAge = 0;
            for (int i = placed; i < order.size(); i++) {
                int age = order.get(i).holder.age;
                if (age > bestAge) {
                    best = i;
                    bestAge = age;
                }
            }
            return best;
        }

        Place upNext() {
            return hasOrder() ? firstInOrder() : greatest();
        }

        Place firstInOrder() {
            for (int i = 0; i < order.size(); i++) {
                if (!order.get(i).hadTurn) {
                    return order.get(i);
                }
            }
            return null;
        }

        Place greatest() {
            Place best = null;
            for (int i = 0; i < places.size(); i++) {
                Place place = places.get(i);
                if (!place.hadTurn && (best == null || place.rank(way) > best.rank(way))) {
                    best = place;
                }
            }
            return best;
        }

        void collect(boolean moved) {
            for (int i = 0; i < places.size(); i++) {
                Place place = places.get(i);
                int owed = sum + place.arrears;
                int paid = Math.min(owed, place.holder.purse);
                place.holder.payIn(paid);
                place.paidIn += paid;
                box += paid;
                place.arrears = owed - paid;
                if (place.arrears > 0 && !moved) {
                    place.arrears += sum / 10;
                }
            }
        }

        void payOut(Place turn) {
            if (turn == null) {
                return;
            }
            int pot = Math.min(box, sum * places.size());
            int discount = way == BID ? Math.min(turn.bid, pot / 2) : 0;
            int others = places.size() - 1;
            int each = others > 0 ? discount / others : 0;
            for (int i = 0; i < places.size(); i++) {
                Place place = places.get(i);
                giveOut(place, place == turn ? pot - discount : each);
            }
            turn.hadTurn = true;
        }

        void giveOut(Place place, int amount) {
            box -= amount;
            place.holder.getOut(amount);
        }

        void clearBids() {
            for (int i = 0; i < places.size(); i++) {
                places.get(i).bid = 0;
            }
        }

        void endRoundIfAllHadTurns() {
            if (places.isEmpty()) {
                return;
            }
            for (int i = 0; i < places.size(); i++) {
                if (!places.get(i).hadTurn) {
                    return;
                }
            }
            for (int i = 0; i < places.size(); i++) {
                places.get(i).hadTurn = false;
                places.get(i).paidIn = 0;
            }
            rounds++;
        }

        void removePlace(Place gone) {
            removeFrom(places, gone);
            removeFrom(order, gone);
            endRoundIfAllHadTurns();
        }

        static void removeFrom(ArrayList<Place> list, Place gone) {
            for (int i = 0; i < list.size(); i++) {
                if (list.get(i) == gone) {
                    list.remove(i);
                    return;
                }
            }
        }

        /** Tells whether the heir got the place of the dead. */
        boolean passOn(Person dead, Person heir) {
            Place left = placeOf(dead);
            if (left == null) {
                return false;
            }
            Place own = placeOf(heir);
            if (own == null) {
                left.holder = heir;
                return true;
            }
            own.arrears += left.arrears;
            removePlace(left);
            return false;
        }
    }
}
