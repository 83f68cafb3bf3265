import java.util.ArrayList;
import java.util.HashMap;
import java.util.List;
import java.util.Map;

/** The document a second time, written as plainly as can be, to compare random runs with. */
final class Model {
    static final long INDEX = 1L << 40;
    static final long ARGUMENT = 2L << 40;
    static final long STATE = 3L << 40;

    private static final class Seat {
        int arrears;
        int need;
        int bid;
        int paid;
        boolean turn;
    }

    private static final class Ring {
        int sum;
        int way;
        int box;
        int meetings;
        int rounds;
        boolean started;
        List<Integer> members = new ArrayList<>();
        List<Integer> order = new ArrayList<>();
        Map<Integer, Seat> seats = new HashMap<>();
    }

    private final int[] age = new int[16];
    private final int[] name = new int[16];
    private final int[] purse = new int[16];
    private final int[] shares = new int[16];
    private final int[] debt = new int[16];
    private final int[] months = new int[16];
    private final int[] first = new int[16];
    private final int[] second = new int[16];
    private final int[] back = new int[16];
    private final int[] paid = new int[16];
    private final int[] got = new int[16];
    private final boolean[] dead = new boolean[16];
    private final int[][] book = new int[3][16];
    private final List<Ring> rings = new ArrayList<>();
    private int count = 0;
    private int cash = 0;

    /** Answers a call by the number of its method, in the order of the face. */
    long call(int method, int a, int b, int c, int d) {
        switch (method) {
            case 0: return person(a, b);
            case 1: return earn(a, b);
            case 2: return die(a, b);
            case 3: return circle(a, b);
            case 4: return enter(a, b);
            case 5: return start(a, b);
            case 6: return want(a, b, c, d != 0);
            case 7: return meet(a, b != 0);
            case 8: return leave(a, b);
            case 9: return buy(a, b);
            case 10: return borrow(a, b, c, d);
            case 11: return repay(a, b);
            case 12: return month(a != 0);
            case 13: return feast();
            case 14: return note(a, b, c);
            case 15: return audit(a);
            case 16: return of(a, b);
            case 17: return member(a, b, c);
            case 18: return ofCircle(a, b);
            case 19: return cash;
            default: return 0;
        }
    }

    /** How many rounds have ended in all circles. */
    int rounds() {
        int all = 0;
        for (Ring r : rings) {
            all += r.rounds;
        }
        return all;
    }

    private boolean noPerson(int p) {
        return p < 0 || p >= count;
    }

    private boolean noRing(int c) {
        return c < 0 || c >= rings.size();
    }

    private static boolean out(int value, int low, int high) {
        return value < low || value > high;
    }

    private long person(int years, int named) {
        if (out(years, 1, 120) || out(named, 0, 99999)) return ARGUMENT;
        if (count == 16) return STATE;
        age[count] = years;
        name[count] = named;
        return count++;
    }

    private long earn(int p, int amount) {
        if (noPerson(p)) return INDEX;
        if (out(amount, -10000, 10000)) return ARGUMENT;
        if (dead[p] || purse[p] + amount < 0 || purse[p] + amount > 10000000) return STATE;
        return purse[p] += amount;
    }

    private long die(int p, int heir) {
        if (noPerson(p) || noPerson(heir)) return INDEX;
        if (p == heir) return ARGUMENT;
        if (dead[p] || dead[heir] || shares[p] + shares[heir] > 100) return STATE;
        purse[heir] += purse[p];
        purse[p] = 0;
        shares[heir] += shares[p];
        shares[p] = 0;
        if (debt[p] > 0) {
            if (debt[heir] == 0) {
                months[heir] = months[p];
                first[heir] = first[p];
                second[heir] = second[p];
            }
            debt[heir] += debt[p];
            debt[p] = 0;
        }
        dead[p] = true;
        long places = 0;
        for (Ring r : rings) {
            if (!r.members.contains(p)) continue;
            Seat seat = r.seats.remove(p);
            if (r.members.contains(heir)) {
                r.seats.get(heir).arrears += seat.arrears;
                r.members.remove((Integer) p);
                r.order.remove((Integer) p);
                newRound(r);
            } else {
                r.seats.put(heir, seat);
                r.members.replaceAll(m -> m == p ? heir : m);
                r.order.replaceAll(m -> m == p ? heir : m);
                places++;
            }
        }
        return places;
    }

    private void newRound(Ring r) {
        if (r.members.isEmpty() || !r.members.stream().allMatch(m -> r.seats.get(m).turn)) return;
        for (Seat seat : r.seats.values()) {
            seat.turn = false;
            seat.paid = 0;
        }
        r.rounds++;
    }

    private long circle(int sum, int way) {
        if (out(sum, 1, 1000) || out(way, 0, 3)) return ARGUMENT;
        if (rings.size() == 4) return STATE;
        Ring r = new Ring();
        r.sum = sum;
        r.way = way;
        rings.add(r);
        return rings.size() - 1;
    }

    private long enter(int c, int p) {
        if (noRing(c) || noPerson(p)) return INDEX;
        Ring r = rings.get(c);
        if (r.started || r.members.size() == 10 || r.members.contains(p) || dead[p]) return STATE;
        r.members.add(p);
        r.seats.put(p, new Seat());
        return r.members.size();
    }

    private long start(int c, int seed) {
        if (noRing(c)) return INDEX;
        if (out(seed, 0, 9999)) return ARGUMENT;
        Ring r = rings.get(c);
        if (r.started || r.members.size() < 2) return STATE;
        r.started = true;
        if (r.way == 1) {
            r.order.addAll(r.members);
            r.order.sort((one, other) -> age[other] - age[one]);
        }
        if (r.way == 0) {
            List<Integer> left = new ArrayList<>(r.members);
            while (!left.isEmpty()) {
                r.order.add(left.remove((seed + 31 * r.order.size()) % left.size()));
            }
        }
        return r.order.isEmpty() ? -1 : r.order.get(0);
    }

    private long want(int c, int p, int amount, boolean isBid) {
        if (noRing(c) || noPerson(p)) return INDEX;
        if (out(amount, 0, 10000)) return ARGUMENT;
        Seat seat = rings.get(c).seats.get(p);
        if (seat == null) return STATE;
        long was = isBid ? seat.bid : seat.need;
        if (isBid) {
            seat.bid = amount;
        } else {
            seat.need = amount;
        }
        return was;
    }

    private int turn(Ring r) {
        int best = -1;
        for (int m : r.way < 2 ? r.order : r.members) {
            Seat seat = r.seats.get(m);
            if (seat.turn) continue;
            if (best < 0) {
                best = m;
            } else if (r.way == 2 && seat.need > r.seats.get(best).need) {
                best = m;
            } else if (r.way == 3 && seat.bid > r.seats.get(best).bid) {
                best = m;
            }
        }
        return best;
    }

    private long meet(int c, boolean moved) {
        if (noRing(c)) return INDEX;
        Ring r = rings.get(c);
        int members = r.members.size();
        if (!r.started || members < 2) return STATE;
        for (int m : r.members) {
            Seat seat = r.seats.get(m);
            int owed = seat.arrears + r.sum;
            int now = owed < purse[m] ? owed : purse[m];
            purse[m] -= now;
            paid[m] += now;
            r.box += now;
            seat.paid += now;
            seat.arrears = owed - now;
            if (seat.arrears > 0 && !moved) seat.arrears += r.sum / 10;
        }
        int who = turn(r);
        int pot = r.box < r.sum * members ? r.box : r.sum * members;
        int discount = 0;
        if (r.way == 3) {
            discount = r.seats.get(who).bid;
            if (discount > pot / 2) discount = pot / 2;
            for (int m : r.members) {
                if (m != who) give(r, m, discount / (members - 1));
            }
        }
        give(r, who, pot - discount);
        r.seats.get(who).turn = true;
        r.meetings++;
        newRound(r);
        for (Seat seat : r.seats.values()) seat.bid = 0;
        return who;
    }

    private void give(Ring r, int p, int amount) {
        r.box -= amount;
        purse[p] += amount;
        got[p] += amount;
    }

    private long leave(int c, int p) {
        if (noRing(c) || noPerson(p)) return INDEX;
        Ring r = rings.get(c);
        Seat seat = r.seats.get(p);
        if (seat == null || seat.turn || seat.arrears > 0) return STATE;
        int back = Math.min(r.box, seat.paid);
        give(r, p, back);
        r.members.remove((Integer) p);
        r.order.remove((Integer) p);
        r.seats.remove(p);
        newRound(r);
        return back;
    }

    private long buy(int p, int wanted) {
        if (noPerson(p)) return INDEX;
        if (out(wanted, 1, 100)) return ARGUMENT;
        if (dead[p] || shares[p] + wanted > 100 || purse[p] < 10 * wanted) return STATE;
        payFund(p, 10 * wanted);
        return shares[p] += wanted;
    }

    private void payFund(int p, int amount) {
        purse[p] -= amount;
        paid[p] += amount;
        cash += amount;
    }

    private boolean oneHouse(int p, int q) {
        String one = String.format("%05d", name[p]);
        String other = String.format("%05d", name[q]);
        int differ = 0;
        for (int i = 0; i < 5; i++) {
            if (one.charAt(i) != other.charAt(i)) differ++;
        }
        return differ < 2;
    }

    private long borrow(int p, int amount, int one, int two) {
        if (noPerson(p) || noPerson(one) || noPerson(two)) return INDEX;
        if (p == one || p == two || one == two || out(amount, 1, 1000)) return ARGUMENT;
        for (int q : new int[] {p, one, two}) {
            if (dead[q] || shares[q] == 0) return STATE;
        }
        int debts = amount;
        for (int q = 0; q < count; q++) {
            if (!dead[q] && oneHouse(p, q)) debts += debt[q];
        }
        if (debt[p] > 0 || amount > 50 * (1 + back[p]) || debts > 500 || amount > cash) return STATE;
        payFund(p, -amount);
        debt[p] = amount;
        months[p] = 0;
        first[p] = one;
        second[p] = two;
        return purse[p];
    }

    private long repay(int p, int amount) {
        if (noPerson(p)) return INDEX;
        if (out(amount, 1, 10000)) return ARGUMENT;
        int now = Math.min(amount, debt[p]);
        if (debt[p] == 0 || purse[p] < now) return STATE;
        payFund(p, now);
        debt[p] -= now;
        if (debt[p] == 0) back[p]++;
        return debt[p];
    }

    private long month(boolean drought) {
        if (drought) return 0;
        long defaults = 0;
        for (int p = 0; p < count; p++) {
            if (debt[p] == 0) continue;
            debt[p] += debt[p] % 20 == 0 ? debt[p] / 20 : debt[p] / 20 + 1;
            if (++months[p] <= 6) continue;
            defaults++;
            int half = debt[p] / 2;
            if (!dead[first[p]]) payFund(first[p], Math.min(purse[first[p]], half));
            if (!dead[second[p]]) payFund(second[p], Math.min(purse[second[p]], debt[p] - half));
            debt[p] = 0;
            back[p] = 0;
        }
        return defaults;
    }

    private long feast() {
        int all = 0;
        for (int p = 0; p < count; p++) {
            all += shares[p];
            if (debt[p] > 0) return STATE;
        }
        if (all == 0) return STATE;
        int each = cash / all;
        for (int p = 0; p < count; p++) {
            payFund(p, -each * shares[p]);
            shares[p] = 0;
        }
        return each;
    }

    private long note(int which, int p, int amount) {
        if (out(which, 0, 2) || noPerson(p)) return INDEX;
        if (out(amount, -10000, 10000)) return ARGUMENT;
        return book[which][p] += amount;
    }

    private long audit(int which) {
        if (out(which, 0, 2)) return INDEX;
        for (int p = 0; p < count; p++) {
            if (book[which][p] != paid[p] - got[p]) return p;
        }
        return -1;
    }

    private long of(int p, int what) {
        if (noPerson(p)) return INDEX;
        if (out(what, 0, 6)) return ARGUMENT;
        int house = 0;
        for (int q = 0; q < count; q++) {
            if (!dead[q] && oneHouse(p, q)) house++;
        }
        int[] told = {purse[p], shares[p], debt[p], back[p], paid[p] - got[p], dead[p] ? 0 : 1, house};
        return told[what];
    }

    private long member(int c, int p, int what) {
        if (noRing(c) || noPerson(p)) return INDEX;
        if (out(what, 0, 3)) return ARGUMENT;
        Seat seat = rings.get(c).seats.get(p);
        if (seat == null) return -1;
        int[] told = {seat.arrears, seat.turn ? 1 : 0, seat.paid, rings.get(c).members.indexOf(p)};
        return told[what];
    }

    private long ofCircle(int c, int what) {
        if (noRing(c)) return INDEX;
        if (out(what, 0, 4)) return ARGUMENT;
        Ring r = rings.get(c);
        int[] told = {r.box, r.members.size(), r.meetings, r.rounds, r.started ? turn(r) : -1};
        return told[what];
    }
}
