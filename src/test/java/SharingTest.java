/** What promise 12 (close) rests on: the four rules of sharing, the battery and the grid. */
public final class SharingTest {
    private static final int EQUAL = 0;
    private static final int SHARES = 1;
    private static final int ROOM = 2;
    private static final int RANK = 3;
    private static final int[] NONE = {};

    public static void main(String[] args) {
        equal();
        shares();
        room();
        rank();
        givers();
        amountsAtTheEdges();
        charging();
        chargingAtTheEdges();
        discharging();
        dischargingAtTheEdges();
        dischargingByEachRule();
        termsOfTheMoment();
        Check.end("SharingTest");
    }

    /** One member more than there are needs generates the amount. */
    private static EnergyLedger closed(int rule, int amount, int[] needs, int[] shares, int[] ranks) {
        EnergyLedger x = Scenes.withMembers(needs.length + 1);
        x.setRule(rule);
        for (int k = 0; k < needs.length; k++) {
            x.setMember(k, k < shares.length ? shares[k] : 10, k < ranks.length ? ranks[k] : k);
            x.meter(k, 0, 0, needs[k]);
        }
        x.meter(needs.length, 0, amount, 0);
        x.close();
        return x;
    }

    private static void check(String what, EnergyLedger x, int flow, int... due) {
        for (int k = 0; k < due.length; k++) {
            Check.equal(what + ", member " + k, x.flow(0, k, flow), due[k]);
        }
    }

    private static int[] row(int... numbers) {
        return numbers;
    }

    private static void equal() {
        check("EQUAL", closed(EQUAL, 9, row(10, 10, 10), NONE, NONE), 1, 3, 3, 3);
        check("EQUAL, a rest", closed(EQUAL, 8, row(10, 10, 10), NONE, NONE), 1, 3, 3, 2);
        check("EQUAL, less than members", closed(EQUAL, 2, row(10, 10, 10), NONE, NONE), 1, 1, 1, 0);
        check("EQUAL, a small room", closed(EQUAL, 7, row(1, 10, 10), NONE, NONE), 1, 1, 3, 3);
        check("EQUAL, a small room between", closed(EQUAL, 8, row(5, 1, 5), NONE, NONE), 1, 4, 1, 3);
        check("EQUAL, no room", closed(EQUAL, 5, row(0, 5, 5), NONE, NONE), 1, 0, 3, 2);
        check("EQUAL, all is full", closed(EQUAL, 99, row(7, 2, 1), NONE, NONE), 1, 7, 2, 1);
        check("EQUAL, many rounds", closed(EQUAL, 31, row(1, 2, 4, 8, 100), NONE, NONE), 1, 1, 2, 4, 8, 16);
        check("EQUAL, no shares", closed(EQUAL, 3, row(5, 5), row(0, 100), row(9, 0)), 1, 2, 1);
        check("EQUAL, rooms of 1 count", closed(EQUAL, 5, row(10, 10, 1, 1), NONE, NONE), 1, 2, 1, 1, 1);
        check("EQUAL, one less than members", closed(EQUAL, 3, row(9, 9, 9, 9), NONE, NONE), 1, 1, 1, 1, 0);
        check("EQUAL, as many as members", closed(EQUAL, 4, row(9, 9, 9, 9), NONE, NONE), 1, 1, 1, 1, 1);
        check("EQUAL, one more than members", closed(EQUAL, 5, row(9, 9, 9, 9), NONE, NONE), 1, 2, 1, 1, 1);
        check("EQUAL, just the room", closed(EQUAL, 9, row(3, 3, 9), NONE, NONE), 1, 3, 3, 3);
        check("EQUAL, the rest passes who is full", closed(EQUAL, 8, row(2, 9, 9), NONE, NONE), 1, 2, 3, 3);
        check("EQUAL, 1 each passes who is full", closed(EQUAL, 7, row(2, 9, 9), NONE, NONE), 1, 2, 3, 2);
        check("EQUAL, nothing", closed(EQUAL, 0, row(5, 5), NONE, NONE), 1, 0, 0);
    }

    private static void shares() {
        check("SHARES", closed(SHARES, 60, row(100, 100, 100), row(10, 20, 30), NONE), 1, 10, 20, 30);
        check("SHARES, a rest", closed(SHARES, 61, row(100, 100, 100), row(10, 20, 30), NONE), 1, 11, 20, 30);
        check("SHARES, a small room", closed(SHARES, 60, row(5, 100, 100), row(10, 20, 30), NONE), 1, 5, 22, 33);
        check("SHARES, the rest goes by shares", closed(SHARES, 5, row(100, 100, 100), row(1, 1, 100), NONE), 1, 1, 0, 4);
        check("SHARES, 1 each", closed(SHARES, 2, row(9, 9, 9), row(10, 10, 10), NONE), 1, 1, 1, 0);
        check("SHARES, 1 each by shares alone", closed(SHARES, 1, row(9, 9, 9), row(0, 10, 10), NONE), 1, 0, 1, 0);
        check("SHARES, then EQUAL", closed(SHARES, 17, row(10, 10, 10), row(0, 0, 5), NONE), 1, 4, 3, 10);
        check("SHARES, none", closed(SHARES, 5, row(10, 10, 10), row(0, 0, 0), NONE), 1, 2, 2, 1);
        check("SHARES, the share of the full counts no more",
                closed(SHARES, 30, row(0, 100, 100), row(100, 1, 2), NONE), 1, 0, 10, 20);
        check("SHARES, one share of 1", closed(SHARES, 5, row(10, 10), row(0, 1), NONE), 1, 0, 5);
        check("SHARES, far apart", closed(SHARES, 31, row(100, 100), row(30, 1), NONE), 1, 30, 1);
        check("SHARES, a room of 1 counts", closed(SHARES, 10, row(100, 1), row(10, 10), NONE), 1, 9, 1);
        check("SHARES, just 1", closed(SHARES, 100, row(200, 200), row(1, 99), NONE), 1, 1, 99);
        check("SHARES, just below 1", closed(SHARES, 99, row(200, 200), row(1, 99), NONE), 1, 1, 98);
        check("SHARES, none gets by its share", closed(SHARES, 2, row(9, 9, 9, 9), row(0, 3, 4, 3), NONE), 1, 0, 1, 1, 0);
        check("SHARES, one less than all", closed(SHARES, 3, row(9, 9, 9, 9), row(1, 1, 1, 1), NONE), 1, 1, 1, 1, 0);
        check("SHARES, as much as all", closed(SHARES, 4, row(9, 9, 9, 9), row(1, 1, 1, 1), NONE), 1, 1, 1, 1, 1);
        check("SHARES, 1 each passes who is full", closed(SHARES, 6, row(1, 9, 9), row(8, 8, 8), NONE), 1, 1, 3, 2);
        check("SHARES, full after the first round", closed(SHARES, 12, row(2, 9, 9), row(50, 50, 0), NONE), 1, 2, 9, 1);
        check("SHARES, what is left by EQUAL", closed(SHARES, 9, row(2, 9, 9), row(100, 0, 0), NONE), 1, 2, 4, 3);
        check("SHARES, what is left of 1", closed(SHARES, 3, row(2, 9, 9), row(1, 0, 0), NONE), 1, 2, 1, 0);
        check("SHARES, none is left", closed(SHARES, 2, row(2, 9, 9), row(1, 0, 0), NONE), 1, 2, 0, 0);
        check("SHARES, large", closed(SHARES, 5000, row(5000, 5000), row(100, 99), NONE), 1, 2513, 2487);
    }

    private static void room() {
        check("ROOM", closed(ROOM, 30, row(10, 20, 30), NONE, NONE), 1, 5, 10, 15);
        check("ROOM, a rest", closed(ROOM, 31, row(10, 20, 30), NONE, NONE), 1, 6, 10, 15);
        check("ROOM, a rest goes past who has no room", closed(ROOM, 5, row(0, 3, 3), NONE, NONE), 1, 0, 3, 2);
        check("ROOM, all is full", closed(ROOM, 70, row(10, 20, 30), NONE, NONE), 1, 10, 20, 30);
        check("ROOM, less than members", closed(ROOM, 2, row(5, 5, 5), row(0, 0, 9), row(9, 8, 7)), 1, 1, 1, 0);
        check("ROOM, a rest of several", closed(ROOM, 4, row(1, 1, 1, 1, 2), NONE, NONE), 1, 1, 1, 1, 0, 1);
        check("ROOM, one room of 1", closed(ROOM, 5, row(0, 1), NONE, NONE), 1, 0, 1);
        check("ROOM, 1", closed(ROOM, 1, row(3, 9, 27), NONE, NONE), 1, 1, 0, 0);
        check("ROOM, one less than members", closed(ROOM, 3, row(7, 7, 7, 7), NONE, NONE), 1, 1, 1, 1, 0);
        check("ROOM, as many as members", closed(ROOM, 4, row(7, 7, 7, 7), NONE, NONE), 1, 1, 1, 1, 1);
        check("ROOM, the rest passes who is full", closed(ROOM, 3, row(0, 1, 1, 2), NONE, NONE), 1, 0, 1, 1, 1);
        check("ROOM, all but 1", closed(ROOM, 59, row(10, 20, 30), NONE, NONE), 1, 10, 20, 29);
        check("ROOM, just all", closed(ROOM, 60, row(10, 20, 30), NONE, NONE), 1, 10, 20, 30);
        check("ROOM, large", closed(ROOM, 4999, row(5000, 5000, 5000, 5000, 5000), NONE, NONE), 1, 1000, 1000, 1000, 1000, 999);
    }

    private static void rank() {
        check("RANK", closed(RANK, 25, row(10, 10, 10), NONE, row(5, 3, 3)), 1, 5, 10, 10);
        check("RANK, the same ranks", closed(RANK, 15, row(10, 10, 10), NONE, row(3, 3, 3)), 1, 10, 5, 0);
        check("RANK, backwards", closed(RANK, 15, row(10, 10, 10), NONE, row(99, 98, 97)), 1, 0, 5, 10);
        check("RANK, 0 and 99", closed(RANK, 11, row(10, 10, 10), NONE, row(99, 0, 99)), 1, 1, 10, 0);
        check("RANK, all is full", closed(RANK, 40, row(10, 0, 10), NONE, row(9, 1, 0)), 1, 10, 0, 10);
        check("RANK, all of 99", closed(RANK, 30, row(10, 10, 10), NONE, row(99, 99, 99)), 1, 10, 10, 10);
        check("RANK, 98 and 99", closed(RANK, 25, row(10, 10, 10), NONE, row(99, 98, 99)), 1, 10, 10, 5);
        check("RANK, all of 0", closed(RANK, 25, row(10, 10, 10), NONE, row(0, 0, 0)), 1, 10, 10, 5);
        check("RANK, just the first", closed(RANK, 10, row(10, 10, 10), NONE, row(2, 1, 0)), 1, 0, 0, 10);
        check("RANK, one less than the first", closed(RANK, 9, row(10, 10, 10), NONE, row(2, 1, 0)), 1, 0, 0, 9);
        check("RANK, one more than the first", closed(RANK, 11, row(10, 10, 10), NONE, row(2, 1, 0)), 1, 0, 1, 10);
        check("RANK, five", closed(RANK, 35, row(10, 10, 10, 10, 10), NONE, row(4, 0, 3, 0, 4)), 1, 5, 10, 10, 10, 0);
    }

    /** Nothing, 1, all but 1, all, and more than all rooms together, by each rule. */
    private static void amountsAtTheEdges() {
        int[] needs = {3, 0, 4, 1};
        int[] shares = {1, 100, 0, 2};
        int[] ranks = {99, 0, 98, 99};
        int[][] ofOne = {{1, 0, 0, 0}, {1, 0, 0, 0}, {1, 0, 0, 0}, {0, 0, 1, 0}};
        int[][] ofAllButOne = {{3, 0, 3, 1}, {3, 0, 3, 1}, {3, 0, 4, 0}, {3, 0, 4, 0}};
        for (int rule = 0; rule < 4; rule++) {
            check("nothing, rule " + rule, closed(rule, 0, needs, shares, ranks), 1, 0, 0, 0, 0, 0);
            check("1, rule " + rule, closed(rule, 1, needs, shares, ranks), 1, ofOne[rule]);
            check("all but 1, rule " + rule, closed(rule, 7, needs, shares, ranks), 1, ofAllButOne[rule]);
            check("all, rule " + rule, closed(rule, 8, needs, shares, ranks), 1, needs);
            check("more than all, rule " + rule, closed(rule, 9, needs, shares, ranks), 1, needs);
            Check.equal("what is more goes to the grid", closed(rule, 9, needs, shares, ranks).flow(0, 4, 6), 1);
            check("no room, rule " + rule, closed(rule, 5, row(0, 0, 0), shares, ranks), 1, 0, 0, 0, 0);
            check("one room of all, rule " + rule, closed(rule, 5, row(0, 0, 4), shares, ranks), 1, 0, 0, 4);
        }
    }

    /** Whatever the rule is, surpluses are taken by ROOM. */
    private static void givers() {
        for (int rule = 0; rule < 4; rule++) {
            EnergyLedger x = Scenes.withMembers(4);
            x.setRule(rule);
            x.setBattery(1000, 13, 100);
            x.setMember(0, 0, 9);
            x.setMember(1, 0, 4);
            x.setMember(2, 100, 1);
            x.meter(0, 0, 10, 0);
            x.meter(1, 0, 25, 5);
            x.meter(2, 0, 30, 0);
            x.meter(3, 0, 0, 31);
            Check.equal("close", x.close(), 31);
            check("what is given to members", x, 4, 6, 10, 15, 0);
            // 4, 10 and 15 are left: 13 of 29 are 1, 4 and 6, then 1 each for the first two
            check("what is given into the battery", x, 5, 2, 5, 6, 0);
            check("what is given to the grid", x, 6, 2, 5, 9, 0);
            check("the money", x, 7, 6 * 18 + 2 * 18 + 2 * 8, 10 * 18 + 5 * 18 + 5 * 8, 15 * 18 + 6 * 18 + 9 * 8, -31 * 18);
            Check.equal("the pot", x.common(0), -13 * 18);
            Check.equal("the grid", x.common(1), -16 * 8);
            Check.equal("the bank", x.common(2), 0);
        }
    }

    private static EnergyLedger charged(int capacity, int power, int efficiency, int surplus) {
        EnergyLedger x = Scenes.withMembers(1);
        x.setBattery(capacity, power, efficiency);
        x.meter(0, 0, surplus, 0);
        x.close();
        return x;
    }

    private static void checkCharge(EnergyLedger x, int amount, int content) {
        Check.equal("what goes into the battery", x.flow(0, 0, 5), amount);
        Check.equal("what goes to the grid", x.flow(0, 0, 6), x.reading(0, 0, false) - amount);
        Check.equal("the content", x.content(), content);
        Check.equal("the pot", x.common(0), -18L * amount);
    }

    private static void charging() {
        checkCharge(charged(1000, 300, 100, 299), 299, 299);
        checkCharge(charged(1000, 300, 100, 301), 300, 300);
        checkCharge(charged(100, 300, 100, 301), 100, 100);
        checkCharge(charged(1000, 300, 33, 10), 10, 3);
        checkCharge(charged(1000, 300, 80, 5000), 300, 240);
        checkCharge(charged(100, 5000, 7, 5000), 1442, 100);
        checkCharge(charged(50, 5000, 99, 5000), 51, 50);
        checkCharge(charged(0, 5000, 100, 5000), 0, 0);
        checkCharge(charged(0, 5000, 50, 5000), 1, 0);
        checkCharge(charged(0, 5000, 1, 5000), 99, 0);
        checkCharge(charged(20000, 5000, 1, 5000), 5000, 50);
        checkCharge(charged(20000, 0, 100, 5000), 0, 0);
        EnergyLedger x = charged(100, 60, 100, 5000);
        x.meter(0, 1, 5000, 0);
        x.close();
        Check.equal("no more than what is free", x.flow(1, 0, 5), 40);
        Check.equal("full", x.content(), 100);
    }

    /** At, below and above each of the three bounds: the surplus, the power, and what is free. */
    private static void chargingAtTheEdges() {
        checkCharge(charged(1000, 300, 100, 0), 0, 0);
        checkCharge(charged(1000, 300, 100, 1), 1, 1);
        checkCharge(charged(1000, 300, 100, 300), 300, 300);
        checkCharge(charged(1, 5000, 100, 5000), 1, 1);
        checkCharge(charged(20000, 1, 100, 5000), 1, 1);
        checkCharge(charged(20000, 5000, 100, 5000), 5000, 5000);
        checkCharge(charged(20000, 4999, 100, 5000), 4999, 4999);
        checkCharge(charged(299, 5000, 100, 300), 299, 299);
        checkCharge(charged(300, 5000, 100, 300), 300, 300);
        checkCharge(charged(301, 5000, 100, 300), 300, 300);
        // of 50 hundredths 19 are 9, 20 and 21 are 10, 22 would be 11
        checkCharge(charged(10, 5000, 50, 19), 19, 9);
        checkCharge(charged(10, 5000, 50, 20), 20, 10);
        checkCharge(charged(10, 5000, 50, 21), 21, 10);
        checkCharge(charged(10, 5000, 50, 22), 21, 10);
        checkCharge(charged(10, 21, 50, 5000), 21, 10);
        checkCharge(charged(10, 20, 50, 5000), 20, 10);
        // of 99 hundredths 1 is nothing, 2 are 1, 3 are 2
        checkCharge(charged(0, 5000, 99, 5000), 1, 0);
        checkCharge(charged(1, 5000, 99, 5000), 2, 1);
        checkCharge(charged(2, 5000, 99, 1), 1, 0);
        // of 1 hundredth 99 are nothing, 100 to 199 are 1
        checkCharge(charged(1, 5000, 1, 99), 99, 0);
        checkCharge(charged(1, 5000, 1, 100), 100, 1);
        checkCharge(charged(1, 5000, 1, 5000), 199, 1);
        checkCharge(charged(49, 5000, 1, 5000), 4999, 49);
        checkCharge(charged(50, 5000, 1, 5000), 5000, 50);
        int[][] freeAndTaken = {{0, 0}, {1, 1}, {59, 59}, {60, 60}, {61, 60}};
        for (int[] both : freeAndTaken) {
            EnergyLedger x = filled(1, 100);
            x.setBattery(100 + both[0], 60, 100);
            x.meter(0, 1, 5000, 0);
            x.close();
            Check.equal("with " + both[0] + " free", x.flow(1, 0, 5), both[1]);
            Check.equal("the content", x.content(), 100 + both[1]);
        }
    }

    private static EnergyLedger filled(int members, int content) {
        EnergyLedger x = Scenes.withMembers(members);
        x.setBattery(content, content, 100);
        x.meter(0, 0, content, 0);
        x.close();
        return x;
    }

    private static void discharging() {
        EnergyLedger x = filled(3, 100);
        x.setRule(RANK);
        x.setMember(1, 10, 5);
        x.setMember(2, 10, 3);
        x.setBattery(100, 70, 1);
        x.meter(1, 1, 0, 50);
        x.meter(2, 1, 0, 50);
        Check.equal("nothing goes from member to member", x.close(), 0);
        Check.equal("by the rule", x.flow(1, 1, 2), 20);
        Check.equal("by the rule", x.flow(1, 2, 2), 50);
        Check.equal("the rest from the grid", x.flow(1, 1, 3), 30);
        Check.equal("the money", x.flow(1, 1, 7), -20 * 18 - 30 * 30);
        Check.equal("the efficiency is of charging alone", x.content(), 30);
        Check.equal("the pot", x.common(0), -100 * 18 + 70 * 18);
        Check.equal("the grid", x.common(1), 30 * 30);
        x.setRule(EQUAL);
        x.meter(1, 2, 0, 50);
        x.meter(2, 2, 0, 50);
        x.close();
        Check.equal("not more than the content", x.flow(2, 1, 2), 15);
        Check.equal("empty", x.content(), 0);
        EnergyLedger y = filled(2, 100);
        y.meter(1, 1, 0, 40);
        y.close();
        Check.equal("not more than the needs", y.flow(1, 1, 2), 40);
        Check.equal("the content", y.content(), 60);
        EnergyLedger z = filled(2, 100);
        z.meter(0, 1, 10, 0);
        z.meter(1, 1, 0, 10);
        Check.equal("nothing is left", z.close(), 10);
        Check.equal("the battery rests", z.content(), 100);
    }

    /** At, below and above each of the three bounds: the needs, the power, and the content. */
    private static void dischargingAtTheEdges() {
        // content, power, need, and what the battery gives
        int[][] cases = {{100, 100, 99, 99}, {100, 100, 100, 100}, {100, 100, 101, 100}, {100, 99, 100, 99},
            {100, 99, 99, 99}, {99, 100, 100, 99}, {99, 5000, 99, 99}, {99, 5000, 98, 98}, {1, 5000, 5000, 1},
            {0, 5000, 5000, 0}, {100, 0, 5000, 0}, {100, 1, 5000, 1}, {100, 5000, 0, 0}, {100, 5000, 1, 1},
            {5000, 5000, 5000, 5000}, {5000, 4999, 5000, 4999}, {4999, 5000, 5000, 4999}};
        for (int[] c : cases) {
            EnergyLedger x = filled(1, c[0]);
            x.setBattery(20000, c[1], 1);
            x.meter(0, 1, 0, c[2]);
            x.close();
            String what = "content " + c[0] + ", power " + c[1] + ", need " + c[2];
            Check.equal(what + ": from the battery", x.flow(1, 0, 2), c[3]);
            Check.equal(what + ": from the grid", x.flow(1, 0, 3), c[2] - c[3]);
            Check.equal(what + ": the content", x.content(), c[0] - c[3]);
            Check.equal(what + ": the pot", x.common(0), (c[3] - c[0]) * 18);
            Check.equal(what + ": the money", x.flow(1, 0, 7), -c[3] * 18 - (c[2] - c[3]) * 30);
        }
    }

    /** What the battery gives is shared among the needs that the members have left, by the rule. */
    private static void dischargingByEachRule() {
        int[][] fromMembers = {{4, 4, 4}, {2, 4, 6}, {3, 8, 1}, {0, 12, 0}};
        int[][] fromBattery = {{6, 5, 4}, {4, 7, 4}, {3, 10, 2}, {0, 9, 6}};
        int[][] needs = {{20, 20, 8}, {20, 20, 10}, {8, 30, 7}, {20, 21, 9}};
        for (int rule = 0; rule < 4; rule++) {
            EnergyLedger x = filled(4, 15);
            x.setRule(rule);
            x.setMember(0, 10, 2);
            x.setMember(1, 20, 0);
            x.setMember(2, 30, 1);
            x.meter(3, 1, 12, 0);
            for (int m = 0; m < 3; m++) {
                x.meter(m, 1, 0, needs[rule][m]);
            }
            Check.equal("close", x.close(), 12);
            for (int m = 0; m < 3; m++) {
                Check.equal("from members, rule " + rule + ", member " + m, x.flow(1, m, 1), fromMembers[rule][m]);
                Check.equal("from the battery, rule " + rule + ", member " + m, x.flow(1, m, 2), fromBattery[rule][m]);
            }
            Check.equal("the content", x.content(), 0);
        }
    }

    /** What is set after a slot has been closed does not touch it, also not when it is closed anew. */
    private static void termsOfTheMoment() {
        EnergyLedger x = Scenes.open();
        EnergyLedger y = Scenes.open();
        x.close();
        y.close();
        x.setRule(RANK);
        x.setPrices(1, 2, 3);
        x.setMember(0, 99, 9);
        x.setMember(1, 0, 0);
        x.setMember(2, 1, 50);
        x.setBattery(20000, 5000, 1);
        Check.equal("correct", x.correct(0, 0, 500, 1), y.correct(0, 0, 500, 1));
        for (int m = 0; m < 3; m++) {
            for (int what = 0; what < 8; what++) {
                Check.equal("flow", x.flow(0, m, what), y.flow(0, m, what));
            }
        }
        Check.equal("content", x.content(), y.content());
        EnergyLedger z = Scenes.withMembers(2);
        z.meter(0, 0, 10, 0);
        z.setPrices(30, 1, 18);
        z.close();
        Check.equal("what holds is of the moment of closing", z.flow(0, 0, 7), 10);
    }
}
