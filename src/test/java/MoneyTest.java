/** Promises 18 to 25: accounts, settle, pay, late, corrections, independence and digest. */
public final class MoneyTest {
    private static final int[] NO_MEMBER = {-1, 3, 6, Integer.MAX_VALUE, Integer.MIN_VALUE};

    public static void main(String[] args) {
        accounts();
        settle();
        settleAtTheEdges();
        pay();
        payAtTheEdges();
        late();
        lateAtTheEdges();
        corrections();
        independence();
        independenceAtTheEdges();
        digest();
        refusals();
        Check.end("MoneyTest");
    }

    private static long all(EnergyLedger x) {
        long sum = x.common(0) + x.common(1) + x.common(2);
        for (int m = 0; m < x.members(); m++) {
            sum += x.account(m, false) + x.account(m, true);
        }
        return sum;
    }

    private static void accounts() {
        EnergyLedger x = Scenes.withMembers(3);
        x.setBattery(100, 40, 50);
        x.meter(0, 0, 100, 0);
        x.meter(1, 0, 0, 30);
        x.close();
        Check.equal("the giver", x.account(0, false), 30 * 18 + 40 * 18 + 30 * 8);
        Check.equal("the taker", x.account(1, false), -30 * 18);
        Check.equal("who does neither", x.account(2, false), 0);
        Check.equal("no due yet", x.account(0, true), 0);
        Check.equal("the pot", x.common(0), -40 * 18);
        Check.equal("the grid", x.common(1), -30 * 8);
        Check.equal("the bank", x.common(2), 0);
        x.meter(1, 1, 0, 30);
        x.close();
        Check.equal("added to what was there", x.account(1, false), -30 * 18 - 20 * 18 - 10 * 30);
        Check.equal("the pot", x.common(0), -40 * 18 + 20 * 18);
        Check.equal("the grid", x.common(1), -30 * 8 + 10 * 30);
        Check.equal("all together", all(x), 0);
        Check.equal("all together", all(Scenes.running()), 0);
    }

    private static void settle() {
        EnergyLedger x = Scenes.withMembers(2);
        x.meter(0, 0, 10, 0);
        x.meter(1, 0, 0, 10);
        Check.equal("settle without a closed slot", x.settle(4), 0);
        Check.equal("the fee is due", x.account(0, true), -4);
        Check.equal("the pot", x.common(0), 8);
        x.close();
        x.close();
        Check.equal("settle", x.settle(10), 2);
        Check.equal("the due", x.account(0, true), 180 - 14);
        Check.equal("the due", x.account(1, true), -180 - 14);
        Check.equal("the balance", x.account(0, false), 0);
        Check.equal("the pot", x.common(0), 28);
        Check.equal("settle again", x.settle(0), 0);
        Check.equal("the due stays", x.account(0, true), 180 - 14);
        x.close();
        Check.equal("settle of one more", x.settle(10000), 1);
        Check.equal("the greatest fee", x.account(1, true), -180 - 10014);
        Check.equal("the pot", x.common(0), 20028);
        Check.equal("all together", all(x), 0);
        Check.equal("all slots", Scenes.full().settle(1), 48);
    }

    /** Balances below, at and above 0; a fee of 0, 1 and 10000; no member, one, and six of them. */
    private static void settleAtTheEdges() {
        int[] fees = {0, 1, 10000};
        for (int fee : fees) {
            EnergyLedger x = Scenes.withMembers(3);
            x.meter(0, 0, 1, 0);
            x.meter(1, 0, 0, 2);
            x.close();
            Check.equal("settle", x.settle(fee), 1);
            long[] balances = {18, -18 - 30, 0};
            for (int m = 0; m < 3; m++) {
                Check.equal("the due", x.account(m, true), balances[m] - fee);
                Check.equal("the balance", x.account(m, false), 0);
            }
            Check.equal("the pot", x.common(0), 3 * fee);
            Check.equal("the grid", x.common(1), 30);
            Check.equal("the bank", x.common(2), 0);
            Check.equal("once more", x.settle(fee), 0);
            Check.equal("the fee is paid once more", x.account(2, true), -2 * fee);
            Check.equal("the pot", x.common(0), 6 * fee);
            for (int count = 0; count <= 6; count++) {
                EnergyLedger y = Scenes.withMembers(count);
                y.settle(fee);
                Check.equal("the pot of " + count + " members", y.common(0), count * fee);
            }
        }
        EnergyLedger all = Scenes.closed(47);
        Check.equal("all but the last slot", all.settle(0), 47);
        all.close();
        Check.equal("the last slot", all.settle(0), 1);
        Check.equal("none is left", all.settle(0), 0);
        EnergyLedger corrected = Scenes.closed(2);
        corrected.correct(1, 1, 0, 3);
        Check.equal("a slot that was corrected counts once", corrected.settle(0), 2);
    }

    private static void pay() {
        EnergyLedger x = Scenes.withMembers(2);
        Check.equal("pay", x.pay(0, 1), 1);
        Check.equal("pay", x.pay(0, 1000000), 1000001);
        Check.equal("get", x.pay(1, -1000000), -1000000);
        Check.equal("get", x.pay(0, -1), 1000000);
        Check.equal("the bank", x.common(2), 0);
        x.pay(1, 7);
        Check.equal("the bank", x.common(2), -7);
        Check.equal("the due", x.account(1, true), -999993);
        Check.equal("the balance", x.account(1, false), 0);
        Check.equal("all together", all(x), 0);
        for (int k = 0; k < 400; k++) {
            x.pay(0, -1000000);
        }
        Check.equal("a long way", x.account(0, true), -399000000);
        Check.equal("the bank", x.common(2), 399999993);
    }

    /** From below 0 to 0 and above, and back; the amounts that are allowed least and most. */
    private static void payAtTheEdges() {
        EnergyLedger x = Scenes.withMembers(6);
        x.settle(1);
        Check.equal("to 0", x.pay(5, 1), 0);
        Check.equal("above 0", x.pay(5, 1), 1);
        Check.equal("back to 0", x.pay(5, -1), 0);
        Check.equal("below 0", x.pay(5, -1), -1);
        Check.equal("the most", x.pay(5, 1000000), 999999);
        Check.equal("the least", x.pay(5, -1000000), -1);
        Check.equal("one below the most", x.pay(5, 999999), 999998);
        Check.equal("one above the least", x.pay(5, -999999), -1);
        Check.equal("the bank", x.common(2), 0);
        Check.equal("the others", x.account(4, true), -1);
        Check.equal("the pot", x.common(0), 6);
    }

    private static void late() {
        EnergyLedger x = Scenes.withMembers(6);
        Check.equal("nobody", x.late(0), 0);
        for (int m = 0; m < 6; m++) {
            x.pay(m, m % 2 == 0 ? -10 * (m + 1) : 10);
        }
        Check.equal("late(0)", x.late(0), 1 + 4 + 16);
        Check.equal("late(9)", x.late(9), 1 + 4 + 16);
        Check.equal("late(10)", x.late(10), 4 + 16);
        Check.equal("late(29)", x.late(29), 4 + 16);
        Check.equal("late(30)", x.late(30), 16);
        Check.equal("late(50)", x.late(50), 0);
        Check.equal("late of the greatest limit", x.late(Integer.MAX_VALUE), 0);
        x.pay(5, -1000);
        Check.equal("the last member", x.late(100), 32);
        EnergyLedger y = Scenes.withMembers(1);
        y.meter(0, 0, 0, 5);
        y.close();
        Check.equal("a balance is not yet due", y.late(0), 0);
        y.settle(0);
        Check.equal("now it is", y.late(149), 1);
        Check.equal("but not more than that", y.late(150), 0);
    }

    /** "less than minus the limit": just minus the limit is not; the limits 0 and 1; all members and none. */
    private static void lateAtTheEdges() {
        int[] limits = {0, 1, 2, 999999, 1000000};
        for (int limit : limits) {
            for (int m = 0; m < 6; m++) {
                EnergyLedger x = Scenes.withMembers(6);
                if (limit > 0) {
                    x.pay(m, -limit);
                }
                Check.equal("just minus the limit", x.late(limit), 0);
                x.pay(m, -1);
                Check.equal("one less", x.late(limit), 1 << m);
                Check.equal("the next limit", x.late(limit + 1), 0);
                x.pay(m, 2);
                Check.equal("one more", x.late(limit), 0);
            }
        }
        EnergyLedger all = Scenes.withMembers(6);
        all.settle(10000);
        Check.equal("all", all.late(9999), 63);
        Check.equal("all, without a limit", all.late(0), 63);
        Check.equal("none", all.late(10000), 0);
        Check.equal("none of the greatest limit", all.late(Integer.MAX_VALUE), 0);
        all.pay(0, 10000);
        Check.equal("all but the first", all.late(0), 62);
        all.pay(5, 20000);
        Check.equal("all but the first and the last", all.late(0), 30);
        Check.equal("without members", new EnergyLedger().late(0), 0);
    }

    private static void corrections() {
        EnergyLedger x = Scenes.withMembers(1);
        x.close();
        x.meter(0, 1, 1, 1);
        Check.equal("meter is none", x.corrections(), 0);
        x.correct(0, 0, 1, 0);
        x.correct(0, 0, 1, 0);
        Check.equal("corrections", x.corrections(), 2);
        x.settle(0);
        Check.equal("settle leaves them", x.corrections(), 2);
    }

    private static void independence() {
        EnergyLedger x = Scenes.withMembers(2);
        x.meter(0, 0, 0, 3);
        Check.equal("nothing is closed", x.independence(), 1.0);
        x.meter(0, 0, 5, 0);
        x.close();
        Check.equal("nothing is used", x.independence(), 1.0);
        x.meter(0, 1, 1, 3);
        x.meter(1, 1, 1, 0);
        x.close();
        Check.equal("two of three", x.independence(), 2.0 / 3.0);
        x.meter(1, 2, 0, 4);
        x.close();
        Check.equal("two of seven", x.independence(), 2.0 / 7.0);
        x.meter(1, 3, 0, 4);
        Check.equal("open slots do not count", x.independence(), 2.0 / 7.0);
        x.correct(1, 2, 4, 4);
        Check.equal("six of seven", x.independence(), 6.0 / 7.0);
        x.settle(0);
        Check.equal("settled slots count", x.independence(), 6.0 / 7.0);
        EnergyLedger grid = Scenes.withMembers(1);
        grid.meter(0, 0, 0, 9);
        grid.close();
        Check.equal("all from the grid", grid.independence(), 0.0);
        EnergyLedger battery = Scenes.withMembers(1);
        battery.setBattery(10, 10, 100);
        battery.meter(0, 0, 3, 0);
        battery.close();
        battery.meter(0, 1, 0, 5);
        battery.close();
        Check.equal("the battery is not the grid", battery.independence(), 3.0 / 5.0);
    }

    /** Nothing used, 1 used; nothing from the grid, all of it, all but 1. */
    private static void independenceAtTheEdges() {
        double[][] usedOwnAndDue = {{0, 0, 1.0}, {0, 5000, 1.0}, {1, 0, 0.0}, {1, 1, 1.0}, {5000, 0, 0.0},
            {5000, 1, 1.0 / 5000.0}, {5000, 4999, 4999.0 / 5000.0}, {5000, 5000, 1.0}, {3, 1, 1.0 / 3.0}};
        for (double[] c : usedOwnAndDue) {
            EnergyLedger x = Scenes.withMembers(6);
            x.meter(5, 0, (int) c[1], (int) c[0]);
            Check.equal("ahead of the close", x.independence(), 1.0);
            x.close();
            Check.equal("independence", x.independence(), c[2]);
        }
        EnergyLedger x = Scenes.withMembers(2);
        x.meter(0, 0, 0, 10);
        x.close();
        Check.equal("all from the grid", x.independence(), 0.0);
        x.correct(0, 0, 0, 0);
        Check.equal("nothing is used, closed anew", x.independence(), 1.0);
        x.correct(1, 0, 7, 0);
        x.correct(0, 0, 0, 10);
        Check.equal("what came from members", x.independence(), 7.0 / 10.0);
        EnergyLedger all = Scenes.withMembers(1);
        for (int slot = 0; slot < 48; slot++) {
            all.meter(0, slot, slot == 0 || slot == 47 ? 1 : 0, 1);
            all.close();
        }
        Check.equal("from the first slot to the last", all.independence(), 2.0 / 48.0);
    }

    private static void digest() {
        Check.equal("digest of a new object", new EnergyLedger().digest(), digestOf(0, 0, 0, 0, 0, 0, 0, 0, 0));
        EnergyLedger one = Scenes.withMembers(1);
        one.setMember(0, 12, 34);
        one.setRule(2);
        one.setBattery(9, 6, 100);
        one.pay(0, 55);
        one.meter(0, 0, 20, 3);
        Check.equal("digest of a member", one.digest(), digestOf(1, 0, 0, 2, 12, 34, 0, 55, 0, 0, -55, 0, 0));
        one.close();
        Check.equal("digest of a slot", one.digest(), digestOf(1, 1, 6, 2, 12, 34, 6 * 18 + 11 * 8, 55, -6 * 18, -11 * 8, -55,
                0, 20, 3, 3, 0, 0, 0, 0, 6, 11, 6 * 18 + 11 * 8, 0, 0));
        one.settle(1);
        one.meter(0, 1, 0, 7);
        one.close();
        one.correct(0, 1, 0, 8);
        Check.equal("digest", one.digest(), digestOf(1, 2, 0, 2, 12, 34, -6 * 18 - 2 * 30, 55 + 6 * 18 + 11 * 8 - 1,
                1, -11 * 8 + 2 * 30, -55,
                0, 20, 3, 3, 0, 0, 0, 0, 6, 11, 6 * 18 + 11 * 8,
                6, 0, 8, 0, 0, 6, 2, 0, 0, 0, -6 * 18 - 2 * 30, 1, 1));
        EnergyLedger x = Scenes.running();
        Check.equal("digest of what the object tells", x.digest(), digestOfAnswers(x, 1, 1, 10, 0, 40, 7, 20, 1));
    }

    private static long digestOf(long... numbers) {
        long d = 199;
        for (long x : numbers) {
            d = d * 31 + x;
        }
        return d;
    }

    private static long digestOfAnswers(EnergyLedger x, int settled, int rule, int... sharesAndRanks) {
        Check.equal("the rule", x.setRule(rule), rule);
        long d = digestOf(x.members(), x.present(), x.content(), rule);
        for (int m = 0; m < x.members(); m++) {
            d = (d * 31 + sharesAndRanks[2 * m]) * 31 + sharesAndRanks[2 * m + 1];
            d = (d * 31 + x.account(m, false)) * 31 + x.account(m, true);
        }
        for (int which = 0; which < 3; which++) {
            d = d * 31 + x.common(which);
        }
        for (int slot = 0; slot < x.present(); slot++) {
            d = d * 31 + x.contentAt(slot);
            for (int m = 0; m < x.members(); m++) {
                d = (d * 31 + x.reading(m, slot, false)) * 31 + x.reading(m, slot, true);
                for (int what = 0; what < 8; what++) {
                    d = d * 31 + x.flow(slot, m, what);
                }
            }
        }
        return (d * 31 + settled) * 31 + x.corrections();
    }

    private static void refusals() {
        for (int member : NO_MEMBER) {
            Check.refused("account", Check.INDEX, Scenes::running, x -> x.account(member, true));
            Check.refused("account", Check.INDEX, Scenes::running, x -> x.account(member, false));
            Check.refused("pay", Check.INDEX, Scenes::running, x -> x.pay(member, 1));
            Check.refused("pay of nothing", Check.INDEX, Scenes::running, x -> x.pay(member, 0));
        }
        int[] noAccount = {-1, 3, Integer.MAX_VALUE, Integer.MIN_VALUE};
        for (int which : noAccount) {
            Check.refused("common", Check.INDEX, Scenes::running, x -> x.common(which));
        }
        int[] noFee = {-1, 10001, Integer.MAX_VALUE, Integer.MIN_VALUE};
        for (int fee : noFee) {
            Check.refused("settle", Check.ARGUMENT, Scenes::running, x -> x.settle(fee));
        }
        int[] noAmount = {0, 1000001, -1000001, Integer.MAX_VALUE, Integer.MIN_VALUE};
        for (int amount : noAmount) {
            Check.refused("pay", Check.ARGUMENT, Scenes::running, x -> x.pay(2, amount));
        }
        Check.refused("late", Check.ARGUMENT, Scenes::running, x -> x.late(-1));
        Check.refused("late", Check.ARGUMENT, Scenes::running, x -> x.late(Integer.MIN_VALUE));
        Check.refused("account without members", Check.INDEX, EnergyLedger::new, x -> x.account(0, false));
        Check.refused("pay without members", Check.INDEX, EnergyLedger::new, x -> x.pay(0, 1));
    }
}
