import java.math.BigInteger;

/** Where all is full: six members, 48 slots, a battery at its capacity, the greatest readings, prices and fees. */
public final class AllFullTest {
    private static final int MOST = 5000;

    public static void main(String[] args) {
        fillAndEmptyTheBattery();
        amongSix();
        allSlotsClosed();
        allSlotsSettled();
        everyCall();
        digestWrapsAround();
        Check.end("AllFullTest");
    }

    /** Six members, the greatest of everything; nothing is closed. */
    private static EnergyLedger greatest() {
        EnergyLedger x = Scenes.withMembers(6);
        x.setPrices(100, 100, 100);
        x.setBattery(20000, 5000, 100);
        for (int m = 0; m < 6; m++) {
            x.setMember(m, 100, 99);
        }
        return x;
    }

    private static void meterAll(EnergyLedger x, int generated, int used) {
        for (int m = 0; m < 6; m++) {
            x.meter(m, x.present(), generated, used);
        }
    }

    /** 30000 come each time: 5000 into the battery until it holds 20000, then nothing; and so out again. */
    private static void fillAndEmptyTheBattery() {
        for (int rule = 0; rule < 4; rule++) {
            EnergyLedger x = greatest();
            x.setRule(rule);
            for (int slot = 0; slot < 5; slot++) {
                meterAll(x, MOST, 0);
                Check.equal("close", x.close(), 0);
                Check.equal("contentAt", x.contentAt(slot), Math.min(20000, MOST * slot));
            }
            Check.equal("full", x.content(), 20000);
            // 5000 by ROOM of six alike: 833 each, then 1 each for the first two
            Check.equal("the first", x.flow(3, 0, 5), 834);
            Check.equal("the second", x.flow(3, 1, 5), 834);
            Check.equal("the third", x.flow(3, 2, 5), 833);
            Check.equal("the last", x.flow(3, 5, 5), 833);
            Check.equal("a full battery takes nothing", x.flow(4, 0, 5), 0);
            Check.equal("all to the grid", x.flow(4, 5, 6), MOST);
            Check.equal("the money", x.flow(4, 5, 7), MOST * 100);
            Check.equal("the pot", x.common(0), -20000 * 100);
            Check.equal("the grid", x.common(1), -130000 * 100);
            for (int slot = 5; slot < 10; slot++) {
                meterAll(x, 0, MOST);
                x.close();
                Check.equal("contentAt", x.contentAt(slot), Math.max(0, 20000 - MOST * (slot - 5)));
            }
            Check.equal("empty", x.content(), 0);
            Check.equal("by the rule, the first", x.flow(5, 0, 2), rule == 3 ? MOST : 834);
            Check.equal("by the rule, the last", x.flow(5, 5, 2), rule == 3 ? 0 : 833);
            Check.equal("an empty battery gives nothing", x.flow(9, 0, 2), 0);
            Check.equal("all from the grid", x.flow(9, 0, 3), MOST);
            Check.equal("the money", x.flow(9, 0, 7), -MOST * 100);
            Check.equal("the pot", x.common(0), 0);
            Check.equal("the grid", x.common(1), 0);
            Check.equal("independence", x.independence(), 20000.0 / 150000.0);
        }
    }

    /** The greatest products of a sharing: 25000 among rooms of 5000, and 5000 among five of 5000. */
    private static void amongSix() {
        for (int rule = 0; rule < 4; rule++) {
            EnergyLedger x = greatest();
            x.setRule(rule);
            meterAll(x, MOST, 0);
            x.meter(5, 0, 0, MOST);
            Check.equal("one takes", x.close(), MOST);
            Check.equal("of each giver", x.flow(0, 0, 4), 1000);
            Check.equal("of the last giver", x.flow(0, 4, 4), 1000);
            Check.equal("the taker", x.flow(0, 5, 1), MOST);
            meterAll(x, 0, MOST);
            x.meter(0, 1, MOST, 0);
            Check.equal("one gives", x.close(), MOST);
            Check.equal("the giver", x.flow(1, 0, 4), MOST);
            Check.equal("the first taker", x.flow(1, 1, 1), rule == 3 ? MOST : 1000);
            Check.equal("the last taker", x.flow(1, 5, 1), rule == 3 ? 0 : 1000);
            meterAll(x, MOST, 0);
            for (int m = 3; m < 6; m++) {
                x.meter(m, 2, 0, MOST);
            }
            Check.equal("three and three", x.close(), 15000);
            Check.equal("a giver", x.flow(2, 2, 4), MOST);
            Check.equal("a taker", x.flow(2, 3, 1), MOST);
            meterAll(x, MOST, MOST);
            Check.equal("all of their own", x.close(), 0);
            Check.equal("of its own", x.flow(3, 5, 0), MOST);
        }
    }

    /** present: "48 if all are"; what names "all slots are closed" is refused, the rest goes on. */
    private static void allSlotsClosed() {
        EnergyLedger x = Scenes.closed(47);
        Check.equal("present", x.present(), 47);
        // 10 of surplus: 5 into the battery, whose power is 5, and 5 to the grid
        Check.equal("would of the last slot", x.would(0, 0), 5 * 18 + 5 * 8);
        Check.equal("close of the last slot", x.close(), 0);
        Check.equal("present", x.present(), 48);
        Check.equal("contentAt of the last slot", x.contentAt(47), 5);
        Check.refused("close", Check.STATE, Scenes::full, y -> y.close());
        Check.refused("would", Check.STATE, Scenes::full, y -> y.would(0, 0));
        Check.refused("bestRule", Check.STATE, Scenes::full, y -> y.bestRule(0));
        Check.refused("addMember", Check.STATE, Scenes::full, y -> y.addMember());
        Check.equal("the first slot is closed anew", x.correct(0, 0, 3, 3), -5 * 18 - 4 * 8);
        Check.equal("and the last one", x.contentAt(47), 0);
        Check.equal("settle", x.settle(0), 48);
    }

    private static void allSlotsSettled() {
        EnergyLedger x = Scenes.settled();
        Check.equal("none is settled once more", x.settle(0), 0);
        Check.equal("present", x.present(), 48);
        Check.equal("corrections", x.corrections(), 0);
        for (int slot = 0; slot < 48; slot += 47) {
            int last = slot;
            Check.refused("correct", Check.STATE, Scenes::settled, y -> y.correct(0, last, 1, 1));
            Check.refused("meter", Check.STATE, Scenes::settled, y -> y.meter(0, last, 1, 1));
        }
        Check.equal("a member still pays", x.pay(0, 7), x.account(0, true));
        Check.equal("the price may still change", x.setPrices(100, 100, 100), 18);
        Check.equal("the battery may still change", x.setBattery(0, 0, 1), x.contentAt(47) + x.flow(47, 0, 5));
    }

    /** "An object is used for at most 512 calls": the last of them is as good as the first. */
    private static void everyCall() {
        EnergyLedger x = Scenes.withMembers(6);
        for (int call = 6; call < 511; call++) {
            x.pay(5, -1000000);
        }
        Check.equal("the 512th call", x.account(5, true), -505L * 1000000);
        EnergyLedger y = Scenes.withMembers(6);
        for (int call = 6; call < 511; call++) {
            y.settle(10000);
        }
        Check.equal("the 512th call", y.common(0), 505L * 60000);
        EnergyLedger z = greatest();
        for (int slot = 0; slot < 48; slot++) {
            z.meter(0, slot, 0, MOST);
            z.close();
        }
        int callsBefore = 14 + 2 * 48;
        for (int call = callsBefore; call < 511; call++) {
            z.correct(1 + call % 5, call % 48, MOST * (call % 2), MOST);
        }
        Check.equal("the 512th call", z.corrections(), 511 - callsBefore);
    }

    /** "which wraps around as a 64-bit integer": the same number as the last 64 bits of the one without an end. */
    private static void digestWrapsAround() {
        EnergyLedger x = greatest();
        for (int slot = 0; slot < 4; slot++) {
            meterAll(x, slot < 2 ? MOST : 0, slot < 2 ? 0 : MOST);
            x.meter(0, slot, slot * 1000, MOST - slot * 1000);
            x.close();
        }
        x.settle(10000);
        x.meter(5, 4, 1, 2);
        x.close();
        x.correct(5, 4, 2, 1);
        x.pay(0, -1000000);
        long digest = x.digest();
        BigInteger d = BigInteger.valueOf(199);
        d = append(d, 6, 5, x.content(), 0);
        for (int m = 0; m < 6; m++) {
            d = append(d, 100, 99, x.account(m, false), x.account(m, true));
        }
        d = append(d, x.common(0), x.common(1), x.common(2));
        for (int slot = 0; slot < 5; slot++) {
            d = append(d, x.contentAt(slot));
            for (int m = 0; m < 6; m++) {
                d = append(d, x.reading(m, slot, false), x.reading(m, slot, true));
                for (int what = 0; what < 8; what++) {
                    d = append(d, x.flow(slot, m, what));
                }
            }
        }
        d = append(d, 4, 1);
        Check.isTrue("it does not fit into 64 bits", d.bitLength() > 1000);
        Check.equal("digest", digest, d.longValue());
    }

    private static BigInteger append(BigInteger before, long... numbers) {
        BigInteger d = before;
        for (long x : numbers) {
            d = d.multiply(BigInteger.valueOf(31)).add(BigInteger.valueOf(x));
        }
        return d;
    }
}
