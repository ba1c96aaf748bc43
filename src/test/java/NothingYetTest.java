/** Where nothing is there yet: no member, no reading, no closed slot, nothing in the battery, nothing due. */
public final class NothingYetTest {
    public static void main(String[] args) {
        noMember();
        refusedWithoutMembers();
        noReading();
        noClosedSlot();
        noSurplusOrNoNeed();
        noBattery();
        noPrices();
        noShares();
        Check.end("NothingYetTest");
    }

    /** Promise 1: "a ledger without members; no slot is closed", and "all are 0 at first". */
    private static void noMember() {
        EnergyLedger x = new EnergyLedger();
        Check.equal("members", x.members(), 0);
        Check.equal("present", x.present(), 0);
        Check.equal("content", x.content(), 0);
        Check.equal("corrections", x.corrections(), 0);
        Check.equal("independence", x.independence(), 1.0);
        Check.equal("late(0)", x.late(0), 0);
        Check.equal("late of the most", x.late(Integer.MAX_VALUE), 0);
        for (int slot = 0; slot < 48; slot++) {
            Check.equal("contentAt(" + slot + ")", x.contentAt(slot), -1);
        }
        accountsAreZero(x);
        // 0 members, slot 0, content 0, rule 0, three accounts, 0 settled, 0 corrections: 199 * 31^9
        Check.equal("digest", x.digest(), 199L * 31 * 31 * 31 * 31 * 31 * 31 * 31 * 31 * 31);
        Check.equal("settle", x.settle(10000), 0);
        accountsAreZero(x);
        Check.equal("the rule at first", x.setRule(3), 0);
        Check.equal("the price among members at first", x.setPrices(1, 2, 3), 18);
        Check.equal("nothing is gone of an empty battery", x.setBattery(0, 0, 1), 0);
        Check.equal("nothing is gone of an empty battery", x.setBattery(20000, 5000, 100), 0);
        Check.equal("the first member", x.addMember(), 0);
    }

    private static void accountsAreZero(EnergyLedger x) {
        for (int which = 0; which < 3; which++) {
            Check.equal("common(" + which + ")", x.common(which), 0);
        }
    }

    private static void refusedWithoutMembers() {
        Check.refused("close", Check.STATE, EnergyLedger::new, x -> x.close());
        Check.refused("setMember", Check.INDEX, EnergyLedger::new, x -> x.setMember(0, 10, 0));
        Check.refused("meter", Check.INDEX, EnergyLedger::new, x -> x.meter(0, 0, 1, 1));
        Check.refused("reading", Check.INDEX, EnergyLedger::new, x -> x.reading(0, 0, false));
        Check.refused("correct", Check.INDEX, EnergyLedger::new, x -> x.correct(0, 0, 1, 1));
        Check.refused("flow", Check.INDEX, EnergyLedger::new, x -> x.flow(0, 0, 0));
        Check.refused("would", Check.INDEX, EnergyLedger::new, x -> x.would(0, 0));
        Check.refused("bestRule", Check.INDEX, EnergyLedger::new, x -> x.bestRule(0));
        Check.refused("account", Check.INDEX, EnergyLedger::new, x -> x.account(0, false));
        Check.refused("pay", Check.INDEX, EnergyLedger::new, x -> x.pay(0, 1));
        EnergyLedger x = new EnergyLedger();
        Check.isTrue("close is refused", Check.thrown(x, y -> y.close()) == Check.STATE);
        Check.equal("but a member may come then", x.addMember(), 0);
        Check.equal("and the slot be closed", x.close(), 0);
    }

    /** "For each member and slot there is a reading: both 0 at first". */
    private static void noReading() {
        EnergyLedger x = Scenes.withMembers(6);
        for (int m = 0; m < 6; m++) {
            for (int slot = 0; slot < 48; slot += 47) {
                Check.equal("generated at first", x.reading(m, slot, false), 0);
                Check.equal("used at first", x.reading(m, slot, true), 0);
            }
            Check.equal("the same as at first", x.meter(m, m, 0, 0), false);
            for (int rule = 0; rule < 4; rule++) {
                Check.equal("would", x.would(m, rule), 0);
            }
            Check.equal("bestRule", x.bestRule(m), 0);
        }
        Check.equal("close", x.close(), 0);
        Check.equal("contentAt", x.contentAt(0), 0);
        Check.equal("nothing is used", x.independence(), 1.0);
        for (int m = 0; m < 6; m++) {
            for (int what = 0; what < 8; what++) {
                Check.equal("flow", x.flow(0, m, what), 0);
            }
            Check.equal("balance", x.account(m, false), 0);
        }
        accountsAreZero(x);
    }

    /** flow: "0 if the slot is not closed"; contentAt: "-1 if it is not closed"; no slot that could be settled. */
    private static void noClosedSlot() {
        EnergyLedger x = Scenes.open();
        x.would(0, 1);
        x.bestRule(1);
        for (int m = 0; m < 3; m++) {
            for (int what = 0; what < 8; what++) {
                Check.equal("flow with readings", x.flow(0, m, what), 0);
                Check.equal("flow without", x.flow(47, m, what), 0);
            }
            Check.equal("balance", x.account(m, false), 0);
            Check.equal("due", x.account(m, true), 0);
        }
        Check.equal("contentAt", x.contentAt(0), -1);
        Check.equal("independence", x.independence(), 1.0);
        Check.equal("settle", x.settle(0), 0);
        Check.refused("correct", Check.STATE, Scenes::open, y -> y.correct(0, 0, 1, 1));
        x.close();
        Check.equal("contentAt, one is closed", x.contentAt(0), 0);
        Check.equal("contentAt of the next one", x.contentAt(1), -1);
        Check.equal("flow, one is closed", x.flow(0, 0, 0), 100);
        Check.equal("flow of the next one", x.flow(1, 0, 0), 0);
        Check.equal("settle, one is closed", x.settle(0), 1);
    }

    /** As much as there is of both: nothing, if there are only surpluses, or only needs, by whatever rule. */
    private static void noSurplusOrNoNeed() {
        for (int rule = 0; rule < 4; rule++) {
            EnergyLedger x = Scenes.withMembers(3);
            x.setRule(rule);
            x.meter(0, 0, 5000, 1);
            x.meter(1, 0, 7, 7);
            Check.equal("only surpluses", x.close(), 0);
            Check.equal("of its own", x.flow(0, 0, 0), 1);
            Check.equal("to the grid", x.flow(0, 0, 6), 4999);
            Check.equal("neither surplus nor need: of its own", x.flow(0, 1, 0), 7);
            Check.equal("neither surplus nor need: no money", x.flow(0, 1, 7), 0);
            Check.equal("what is used does not come from the grid", x.independence(), 1.0);
            x.meter(0, 1, 1, 5000);
            x.meter(1, 1, 7, 7);
            Check.equal("only needs", x.close(), 0);
            Check.equal("of its own", x.flow(1, 0, 0), 1);
            Check.equal("from the grid", x.flow(1, 0, 3), 4999);
            Check.equal("nobody else pays", x.flow(1, 2, 7), 0);
            Check.equal("the grid", x.common(1), -4999 * 8 + 4999 * 30);
        }
        EnergyLedger alone = Scenes.withMembers(1);
        alone.meter(0, 0, 10, 4);
        Check.equal("one member alone", alone.close(), 0);
        Check.equal("gives to no member", alone.flow(0, 0, 4), 0);
        Check.equal("gives to the grid", alone.flow(0, 0, 6), 6);
    }

    /** "at first 0, 0 and 100": such a battery neither takes nor gives; nor one that lacks only one of them. */
    private static void noBattery() {
        int[][] batteries = {{0, 0, 100}, {0, 5000, 100}, {20000, 0, 100}, {20000, 0, 1}};
        for (int[] b : batteries) {
            EnergyLedger x = Scenes.withMembers(1);
            x.setBattery(b[0], b[1], b[2]);
            takesAndGivesNothing(x);
        }
        takesAndGivesNothing(Scenes.withMembers(1));
    }

    private static void takesAndGivesNothing(EnergyLedger x) {
        x.meter(0, 0, 100, 0);
        x.close();
        Check.equal("into the battery", x.flow(0, 0, 5), 0);
        Check.equal("to the grid", x.flow(0, 0, 6), 100);
        Check.equal("content", x.content(), 0);
        x.meter(0, 1, 0, 100);
        x.close();
        Check.equal("from the battery", x.flow(1, 0, 2), 0);
        Check.equal("from the grid", x.flow(1, 0, 3), 100);
        Check.equal("the pot", x.common(0), 0);
    }

    /** Prices of 0: energy moves, and no money. */
    private static void noPrices() {
        EnergyLedger x = Scenes.open();
        x.setPrices(0, 0, 0);
        Check.equal("close", x.close(), 490);
        x.meter(1, 1, 0, 5000);
        x.close();
        Check.equal("into the battery", x.flow(0, 0, 5), 310);
        Check.equal("from the battery", x.flow(1, 1, 2), 279);
        Check.equal("from the grid", x.flow(1, 1, 3), 5000 - 279);
        for (int m = 0; m < 3; m++) {
            Check.equal("money", x.flow(0, m, 7) + x.flow(1, m, 7), 0);
            Check.equal("balance", x.account(m, false), 0);
        }
        accountsAreZero(x);
    }

    /** SHARES without shares is EQUAL, from the first unit on. */
    private static void noShares() {
        EnergyLedger x = Scenes.withMembers(3);
        for (int m = 0; m < 3; m++) {
            x.setMember(m, 0, m);
        }
        x.setRule(1);
        x.meter(0, 0, 0, 5);
        x.meter(1, 0, 0, 1);
        x.meter(2, 0, 4, 0);
        x.close();
        Check.equal("first", x.flow(0, 0, 1), 3);
        Check.equal("second", x.flow(0, 1, 1), 1);
    }
}
