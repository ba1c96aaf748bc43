import java.util.ArrayList;
import java.util.Comparator;
import java.util.List;

/**
 * The document's words once more, written in another way than the class: units are handed out one by
 * one, and the accounts are never kept, but summed up from the slots whenever they are asked for.
 */
final class Model {
    static final class Terms {
        int rule = 0;
        int buy = 30;
        int sell = 8;
        int among = 18;
        int capacity = 0;
        int power = 0;
        int efficiency = 100;
        final int[] shares = {10, 10, 10, 10, 10, 10};
        final int[] ranks = {0, 1, 2, 3, 4, 5};

        Terms copy() {
            Terms t = new Terms();
            t.rule = rule;
            t.buy = buy;
            t.sell = sell;
            t.among = among;
            t.capacity = capacity;
            t.power = power;
            t.efficiency = efficiency;
            System.arraycopy(shares, 0, t.shares, 0, 6);
            System.arraycopy(ranks, 0, t.ranks, 0, 6);
            return t;
        }
    }

    static final class Outcome {
        final int[][] flow = new int[6][8];
        int before;
        int after;
        Terms terms;
    }

    final int[][][] readings = new int[6][48][2];
    final List<Outcome> closed = new ArrayList<>();
    final long[] due = new long[6];
    Terms now = new Terms();
    int members = 0;
    int settled = 0;
    int corrections = 0;
    int content = 0;
    long fees = 0;
    long bank = 0;

    private static void refuse(boolean isRefused, RuntimeException e) {
        if (isRefused) {
            throw e;
        }
    }

    private void member(int member) {
        refuse(member < 0 || member >= members, new IndexOutOfBoundsException());
    }

    private static void slot(int slot) {
        refuse(slot < 0 || slot > 47, new IndexOutOfBoundsException());
    }

    private static void argument(int value, int least, int most) {
        refuse(value < least || value > most, new IllegalArgumentException());
    }

    long addMember() {
        refuse(members == 6 || !closed.isEmpty(), new IllegalStateException());
        return members++;
    }

    long setMember(int member, int share, int rank) {
        member(member);
        argument(share, 0, 100);
        argument(rank, 0, 99);
        int before = now.shares[member];
        now.shares[member] = share;
        now.ranks[member] = rank;
        return before;
    }

    long setRule(int rule) {
        argument(rule, 0, 3);
        int before = now.rule;
        now.rule = rule;
        return before;
    }

    long setPrices(int buy, int sell, int among) {
        argument(buy, 0, 100);
        argument(sell, 0, 100);
        argument(among, 0, 100);
        int before = now.among;
        now.buy = buy;
        now.sell = sell;
        now.among = among;
        return before;
    }

    long setBattery(int capacity, int power, int efficiency) {
        argument(capacity, 0, 20000);
        argument(power, 0, 5000);
        argument(efficiency, 1, 100);
        now.capacity = capacity;
        now.power = power;
        now.efficiency = efficiency;
        int gone = content > capacity ? content - capacity : 0;
        content -= gone;
        return gone;
    }

    long meter(int member, int slot, int generated, int used) {
        member(member);
        slot(slot);
        argument(generated, 0, 5000);
        argument(used, 0, 5000);
        refuse(slot < closed.size(), new IllegalStateException());
        int[] reading = readings[member][slot];
        boolean same = reading[0] == generated && reading[1] == used;
        reading[0] = generated;
        reading[1] = used;
        return same ? 0 : 1;
    }

    long reading(int member, int slot, boolean isUsed) {
        member(member);
        slot(slot);
        return readings[member][slot][isUsed ? 1 : 0];
    }

    long close() {
        refuse(closed.size() == 48 || members == 0, new IllegalStateException());
        Outcome o = outcome(closed.size(), now.copy(), content);
        closed.add(o);
        content = o.after;
        long among = 0;
        for (int[] f : o.flow) {
            among += f[4];
        }
        return among;
    }

    long correct(int member, int slot, int generated, int used) {
        member(member);
        slot(slot);
        argument(generated, 0, 5000);
        argument(used, 0, 5000);
        refuse(slot >= closed.size() || slot < settled, new IllegalStateException());
        long before = balance(member);
        readings[member][slot] = new int[] {generated, used};
        int there = closed.get(slot).before;
        for (int s = slot; s < closed.size(); s++) {
            Terms terms = closed.get(s).terms;
            Outcome o = outcome(s, terms, there > terms.capacity ? terms.capacity : there);
            closed.set(s, o);
            there = o.after;
        }
        content = there > now.capacity ? now.capacity : there;
        corrections++;
        return balance(member) - before;
    }

    long flow(int slot, int member, int what) {
        slot(slot);
        member(member);
        refuse(what < 0 || what > 7, new IndexOutOfBoundsException());
        return slot < closed.size() ? closed.get(slot).flow[member][what] : 0;
    }

    long contentAt(int slot) {
        slot(slot);
        return slot < closed.size() ? closed.get(slot).before : -1;
    }

    long would(int member, int rule) {
        member(member);
        argument(rule, 0, 3);
        refuse(closed.size() == 48, new IllegalStateException());
        Terms terms = now.copy();
        terms.rule = rule;
        return outcome(closed.size(), terms, content).flow[member][7];
    }

    long bestRule(int member) {
        member(member);
        refuse(closed.size() == 48, new IllegalStateException());
        int best = 3;
        for (int rule = 2; rule >= 0; rule--) {
            if (would(member, rule) >= would(member, best)) {
                best = rule;
            }
        }
        return best;
    }

    long balance(int member) {
        long sum = 0;
        for (int s = settled; s < closed.size(); s++) {
            sum += closed.get(s).flow[member][7];
        }
        return sum;
    }

    long account(int member, boolean isDue) {
        member(member);
        return isDue ? due[member] : balance(member);
    }

    long common(int which) {
        refuse(which < 0 || which > 2, new IndexOutOfBoundsException());
        long pot = fees;
        long grid = 0;
        for (Outcome o : closed) {
            for (int[] f : o.flow) {
                pot += (long) o.terms.among * (f[2] - f[5]);
                grid += (long) o.terms.buy * f[3] - (long) o.terms.sell * f[6];
            }
        }
        return which == 0 ? pot : which == 1 ? grid : bank;
    }

    long settle(int fee) {
        argument(fee, 0, 10000);
        for (int m = 0; m < members; m++) {
            due[m] += balance(m) - fee;
            fees += fee;
        }
        int more = closed.size() - settled;
        settled = closed.size();
        return more;
    }

    long pay(int member, int amount) {
        member(member);
        refuse(amount == 0 || amount < -1000000 || amount > 1000000, new IllegalArgumentException());
        bank -= amount;
        return due[member] += amount;
    }

    long late(int limit) {
        refuse(limit < 0, new IllegalArgumentException());
        long set = 0;
        for (int m = 5; m >= 0; m--) {
            set = 2 * set + (m < members && due[m] + limit < 0 ? 1 : 0);
        }
        return set;
    }

    double independence() {
        long used = 0;
        long others = 0;
        for (int s = 0; s < closed.size(); s++) {
            for (int m = 0; m < members; m++) {
                int[] f = closed.get(s).flow[m];
                used += readings[m][s][1];
                others += f[0] + f[1] + f[2];
            }
        }
        return used == 0 ? 1 : (double) others / used;
    }

    long digest() {
        long d = 199;
        List<Long> numbers = new ArrayList<>(List.of((long) members, (long) closed.size(), (long) content, (long) now.rule));
        for (int m = 0; m < members; m++) {
            numbers.addAll(List.of((long) now.shares[m], (long) now.ranks[m], balance(m), due[m]));
        }
        numbers.addAll(List.of(common(0), common(1), common(2)));
        for (int s = 0; s < closed.size(); s++) {
            numbers.add(contentAt(s));
            for (int m = 0; m < members; m++) {
                numbers.add(reading(m, s, false));
                numbers.add(reading(m, s, true));
                for (int what = 0; what < 8; what++) {
                    numbers.add(flow(s, m, what));
                }
            }
        }
        numbers.addAll(List.of((long) settled, (long) corrections));
        for (long x : numbers) {
            d = d * 31 + x;
        }
        return d;
    }

    private Outcome outcome(int slot, Terms terms, int content) {
        Outcome o = new Outcome();
        o.terms = terms;
        o.before = content;
        int[] surplus = new int[6];
        int[] need = new int[6];
        for (int m = 0; m < members; m++) {
            int generated = readings[m][slot][0];
            int used = readings[m][slot][1];
            o.flow[m][0] = generated < used ? generated : used;
            surplus[m] = generated > used ? generated - used : 0;
            need[m] = used > generated ? used - generated : 0;
        }
        int among = sum(surplus) < sum(need) ? sum(surplus) : sum(need);
        move(o, 1, need, share(terms.rule, among, need, terms));
        move(o, 4, surplus, share(2, among, surplus, terms));
        o.after = content;
        if (sum(surplus) > 0) {
            int charge = sum(surplus) < terms.power ? sum(surplus) : terms.power;
            while (charge * terms.efficiency / 100 > terms.capacity - content) {
                charge--;
            }
            move(o, 5, surplus, share(2, charge, surplus, terms));
            o.after += charge * terms.efficiency / 100;
        } else if (sum(need) > 0) {
            int gives = Math.min(sum(need), Math.min(terms.power, content));
            move(o, 2, need, share(terms.rule, gives, need, terms));
            o.after -= gives;
        }
        for (int m = 0; m < members; m++) {
            int[] f = o.flow[m];
            f[6] = surplus[m];
            f[3] = need[m];
            f[7] = f[4] * terms.among + f[5] * terms.among + f[6] * terms.sell
                    - f[1] * terms.among - f[2] * terms.among - f[3] * terms.buy;
        }
        return o;
    }

    private static void move(Outcome o, int what, int[] rooms, int[] parts) {
        for (int m = 0; m < 6; m++) {
            o.flow[m][what] += parts[m];
            rooms[m] -= parts[m];
        }
    }

    private static int sum(int[] row) {
        int sum = 0;
        for (int x : row) {
            sum += x;
        }
        return sum;
    }

    static int[] share(int rule, int amount, int[] rooms, Terms terms) {
        int[] parts = new int[6];
        int left = amount;
        if (rule == 1) {
            left = byShares(left, rooms, parts, terms.shares);
        }
        if (rule == 2 && sum(rooms) > 0) {
            for (int m = 0; m < 6; m++) {
                parts[m] = (int) ((long) amount * rooms[m] / sum(rooms));
                left -= parts[m];
            }
        }
        if (rule == 3) {
            List<Integer> order = new ArrayList<>(List.of(5, 4, 3, 2, 1, 0));
            order.sort(Comparator.comparingInt((Integer m) -> terms.ranks[m]).thenComparingInt(m -> m));
            for (int m : order) {
                parts[m] = left < rooms[m] ? left : rooms[m];
                left -= parts[m];
            }
        }
        oneByOne(left, rooms, parts);
        return parts;
    }

    /** EQUAL comes to the same as giving 1 each, round after round; the rest of ROOM is given so too. */
    private static void oneByOne(int amount, int[] rooms, int[] parts) {
        int left = amount;
        while (left > 0) {
            for (int m = 0; m < 6 && left > 0; m++) {
                if (parts[m] < rooms[m]) {
                    parts[m]++;
                    left--;
                }
            }
        }
    }

    private static int byShares(int amount, int[] rooms, int[] parts, int[] shares) {
        int left = amount;
        while (left > 0) {
            List<Integer> who = new ArrayList<>();
            int sum = 0;
            for (int m = 0; m < 6; m++) {
                if (shares[m] > 0 && parts[m] < rooms[m]) {
                    who.add(m);
                    sum += shares[m];
                }
            }
            if (who.isEmpty()) {
                return left;
            }
            int given = 0;
            for (int m : who) {
                int part = Math.min(left * shares[m] / sum, rooms[m] - parts[m]);
                parts[m] += part;
                given += part;
            }
            if (given == 0) {
                for (int k = 0; k < who.size() && given < left; k++) {
                    parts[who.get(k)]++;
                    given++;
                }
            }
            left -= given;
        }
        return 0;
    }
}
