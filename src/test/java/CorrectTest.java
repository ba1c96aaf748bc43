/** Promises 13 and 23: correct and corrections. */
public final class CorrectTest {
    public static void main(String[] args) {
        oneSlot();
        laterSlots();
        contentOfTheBeginning();
        capacityOfEachSlot();
        capacityOfNow();
        capacitiesAtTheEdges();
        theSameAsClosedSo();
        settled();
        firstAndLastSlot();
        onlyWhatFollows();
        changesOfAllSigns();
        refusedOnesDoNotCount();
        refusals();
        Check.end("CorrectTest");
    }

    private static void oneSlot() {
        EnergyLedger x = Scenes.withMembers(3);
        x.meter(0, 0, 100, 0);
        x.meter(1, 0, 0, 100);
        x.meter(2, 0, 0, 100);
        x.close();
        Check.equal("ahead of it", x.account(1, false), -50 * 18 - 50 * 30);
        Check.equal("correct", x.correct(1, 0, 0, 20), (50 * 18 + 50 * 30) - 20 * 18);
        Check.equal("the reading", x.reading(1, 0, true), 20);
        Check.equal("the balance", x.account(1, false), -20 * 18);
        Check.equal("another balance", x.account(2, false), -80 * 18 - 20 * 30);
        Check.equal("the giver", x.account(0, false), 100 * 18);
        Check.equal("the grid", x.common(1), 20 * 30);
        Check.equal("flow", x.flow(0, 2, 1), 80);
        Check.equal("corrections", x.corrections(), 1);
        Check.equal("correct of the same", x.correct(1, 0, 0, 20), 0);
        Check.equal("it is a correction too", x.corrections(), 2);
        Check.equal("correct of generated", x.correct(0, 0, 0, 0), -100 * 18);
        Check.equal("all from the grid", x.flow(0, 1, 3), 20);
        Check.equal("present", x.present(), 1);
        Check.equal("corrections", x.corrections(), 3);
        Check.equal("correct to the edges", x.correct(0, 0, 5000, 5000), 0);
        Check.equal("of its own", x.flow(0, 0, 0), 5000);
    }

    private static void laterSlots() {
        EnergyLedger x = Scenes.withMembers(2);
        x.setBattery(1000, 1000, 100);
        x.meter(0, 0, 100, 0);
        x.close();
        x.meter(1, 1, 0, 60);
        x.close();
        x.meter(1, 2, 0, 60);
        x.close();
        Check.equal("ahead of it", x.account(1, false), -100 * 18 - 20 * 30);
        Check.equal("the change of who is corrected", x.correct(0, 0, 50, 0), -50 * 18);
        Check.equal("contentAt", x.contentAt(0), 0);
        Check.equal("contentAt", x.contentAt(1), 50);
        Check.equal("contentAt", x.contentAt(2), 0);
        Check.equal("a later slot of another member", x.account(1, false), -50 * 18 - 70 * 30);
        Check.equal("the pot", x.common(0), 0);
        Check.equal("the grid", x.common(1), 70 * 30);
        Check.equal("content", x.content(), 0);
        Check.equal("a slot in the middle", x.correct(1, 1, 0, 20), 30 * 18 + 10 * 30 - 30 * 18 + 30 * 30);
        Check.equal("the slot ahead of it stays", x.flow(0, 0, 5), 50);
        Check.equal("contentAt", x.contentAt(2), 30);
        Check.equal("content", x.content(), 0);
        Check.equal("the last slot", x.correct(1, 2, 0, 5), 25 * 18 + 30 * 30);
        Check.equal("content", x.content(), 25);
    }

    /** What a smaller battery let go ahead of the corrected slot does not come back for this slot. */
    private static void contentOfTheBeginning() {
        EnergyLedger x = Scenes.withMembers(2);
        x.setBattery(1000, 1000, 100);
        x.meter(0, 0, 100, 0);
        x.close();
        x.setBattery(30, 1000, 100);
        x.setBattery(1000, 1000, 100);
        x.meter(1, 1, 0, 60);
        x.close();
        Check.equal("contentAt", x.contentAt(1), 30);
        Check.equal("content", x.content(), 0);
        x.correct(1, 1, 0, 10);
        Check.equal("contentAt stays", x.contentAt(1), 30);
        Check.equal("content", x.content(), 20);
        x.correct(0, 0, 100, 0);
        Check.equal("anew from slot 0 on, it is what is then there", x.contentAt(1), 100);
        Check.equal("content", x.content(), 90);
    }

    private static void capacityOfEachSlot() {
        EnergyLedger x = Scenes.withMembers(2);
        x.setBattery(1000, 1000, 100);
        x.meter(0, 0, 100, 0);
        x.close();
        x.setBattery(40, 1000, 100);
        x.close();
        x.setBattery(2000, 1000, 100);
        x.meter(1, 2, 0, 5);
        x.close();
        Check.equal("content", x.content(), 35);
        x.correct(0, 0, 700, 0);
        Check.equal("contentAt", x.contentAt(1), 40);
        Check.equal("contentAt", x.contentAt(2), 40);
        Check.equal("content", x.content(), 35);
        x.correct(0, 0, 30, 0);
        Check.equal("contentAt", x.contentAt(1), 30);
        Check.equal("content", x.content(), 25);
    }

    private static void capacityOfNow() {
        EnergyLedger x = Scenes.withMembers(1);
        x.setBattery(1000, 1000, 100);
        x.meter(0, 0, 10, 0);
        x.close();
        x.setBattery(50, 1000, 100);
        x.correct(0, 0, 90, 0);
        Check.equal("above the capacity of now", x.content(), 50);
        Check.equal("but charged is what the capacity of then lets", x.flow(0, 0, 5), 90);
        x.setBattery(70, 1000, 100);
        Check.equal("what is gone is gone", x.content(), 50);
        x.correct(0, 0, 90, 0);
        Check.equal("anew, above the capacity of now", x.content(), 70);
        x.setBattery(0, 0, 1);
        x.correct(0, 0, 91, 0);
        Check.equal("no capacity", x.content(), 0);
    }

    /** "Content above the capacity is gone": just the capacity stays, 1 more is gone; so for a slot, and so for now. */
    private static void capacitiesAtTheEdges() {
        int[][] chargedAndStays = {{0, 0}, {39, 39}, {40, 40}, {41, 40}, {200, 40}};
        for (int[] both : chargedAndStays) {
            EnergyLedger x = Scenes.withMembers(1);
            x.setBattery(200, 200, 100);
            x.meter(0, 0, 40, 0);
            x.close();
            x.setBattery(40, 200, 100);
            x.close();
            x.correct(0, 0, both[0], 0);
            Check.equal("charged", x.flow(0, 0, 5), both[0]);
            Check.equal("at the beginning of the next slot", x.contentAt(1), both[1]);
            Check.equal("content", x.content(), both[1]);
            Check.equal("what is gone is paid for", x.common(0), -18 * both[0]);
            EnergyLedger y = Scenes.withMembers(1);
            y.setBattery(200, 200, 100);
            y.meter(0, 0, 40, 0);
            y.close();
            y.setBattery(40, 200, 100);
            y.correct(0, 0, both[0], 0);
            Check.equal("the capacity of now", y.content(), both[1]);
            y.close();
            Check.equal("and the slot closed then begins with it", y.contentAt(1), both[1]);
        }
        EnergyLedger z = Scenes.withMembers(1);
        z.setBattery(200, 200, 100);
        z.meter(0, 0, 60, 0);
        z.close();
        z.setBattery(40, 200, 100);
        z.meter(0, 1, 0, 10);
        z.close();
        z.setBattery(35, 200, 100);
        z.correct(0, 0, 70, 0);
        Check.equal("ahead of slot 1 its own capacity", z.contentAt(1), 40);
        Check.equal("30 are left of it, below the capacity of now", z.content(), 30);
        z.correct(0, 1, 0, 5);
        Check.equal("35 are left of it, just the capacity of now", z.content(), 35);
        z.correct(0, 1, 0, 4);
        Check.equal("36 are left of it, one above", z.content(), 35);
    }

    /** Corrected is the same as metered so at first, if nothing was set between. */
    private static void theSameAsClosedSo() {
        EnergyLedger x = Scenes.withMembers(3);
        EnergyLedger y = Scenes.withMembers(3);
        EnergyLedger[] both = {x, y};
        for (EnergyLedger z : both) {
            z.setBattery(500, 200, 77);
            z.setRule(2);
            for (int slot = 0; slot < 48; slot++) {
                boolean isLater = z == x && slot == 5;
                z.meter(0, slot, isLater ? 0 : 50 * (slot % 9), 10);
                z.meter(1, slot, 0, 7 * (slot % 13));
                z.meter(2, slot, 70 * (slot % 3), 60 * (slot % 5));
                z.close();
            }
        }
        Check.isTrue("they differ ahead of it", x.account(0, false) != y.account(0, false));
        x.correct(0, 5, 250, 10);
        y.correct(0, 5, 250, 10);
        Check.equal("the digest", x.digest(), y.digest());
        for (int slot = 0; slot < 48; slot++) {
            Check.equal("contentAt", x.contentAt(slot), y.contentAt(slot));
        }
    }

    private static void settled() {
        EnergyLedger x = Scenes.withMembers(1);
        x.close();
        x.settle(0);
        x.close();
        Check.equal("a slot after the settled ones", x.correct(0, 1, 0, 1), -30);
        Check.equal("corrections", x.corrections(), 1);
        x.settle(0);
        Check.equal("the due", x.account(0, true), -30);
    }

    private static void firstAndLastSlot() {
        EnergyLedger x = Scenes.closed(1);
        Check.equal("the only closed slot", x.correct(1, 0, 0, 1), -18);
        EnergyLedger y = Scenes.full();
        Check.equal("the last slot of all", y.correct(1, 47, 0, 2), -36);
        Check.equal("the first slot of all", y.correct(1, 0, 0, 2), -36);
        Check.equal("both count", y.corrections(), 2);
        y = Scenes.closed(47);
        y.settle(0);
        y.close();
        Check.equal("the only one that is not settled", y.correct(1, 47, 0, 2), -36);
        Check.equal("settle", y.settle(0), 1);
        Check.equal("the due", y.account(1, true), -36);
        Check.equal("nothing is left to be settled", y.settle(0), 0);
    }

    /** The slots ahead of the corrected one, those that are open, and the readings of all others stay. */
    private static void onlyWhatFollows() {
        EnergyLedger x = Scenes.running();
        EnergyLedger y = Scenes.running();
        x.correct(1, 2, 17, 19);
        Check.equal("generated", x.reading(1, 2, false), 17);
        Check.equal("used", x.reading(1, 2, true), 19);
        Check.equal("present", x.present(), 3);
        for (int m = 0; m < 3; m++) {
            for (int slot = 0; slot < 4; slot++) {
                if (m != 1 || slot != 2) {
                    Check.equal("reading", x.reading(m, slot, false), y.reading(m, slot, false));
                    Check.equal("reading", x.reading(m, slot, true), y.reading(m, slot, true));
                }
            }
            for (int what = 0; what < 8; what++) {
                Check.equal("a settled slot", x.flow(0, m, what), y.flow(0, m, what));
                Check.equal("a slot ahead of it", x.flow(1, m, what), y.flow(1, m, what));
                Check.equal("an open slot", x.flow(3, m, what), 0);
            }
            Check.equal("a due", x.account(m, true), y.account(m, true));
        }
        Check.equal("contentAt ahead of it", x.contentAt(1), y.contentAt(1));
        Check.equal("contentAt of itself", x.contentAt(2), y.contentAt(2));
        Check.equal("contentAt of an open slot", x.contentAt(3), -1);
        Check.equal("the bank", x.common(2), y.common(2));
    }

    /** The change may be more, less or nothing, and is of this member alone, over all slots that are closed anew. */
    private static void changesOfAllSigns() {
        EnergyLedger x = Scenes.withMembers(2);
        x.setBattery(100, 100, 100);
        x.meter(0, 0, 50, 0);
        x.meter(0, 1, 0, 80);
        x.close();
        x.close();
        Check.equal("ahead of it", x.account(0, false), 50 * 18 - 50 * 18 - 30 * 30);
        Check.equal("more", x.correct(0, 0, 60, 0), 10 * 18 - 10 * 18 + 10 * 30);
        Check.equal("less", x.correct(0, 0, 40, 0), -20 * 30);
        Check.equal("nothing", x.correct(0, 0, 140, 100), 0);
        Check.equal("the readings are others", x.reading(0, 0, false), 140);
        Check.equal("another member, which gives to the battery", x.correct(1, 0, 20, 0), 20 * 18);
        Check.equal("and what this brings the first one is not in it", x.account(0, false), 40 * 18 - 60 * 18 - 20 * 30);
        Check.equal("corrections", x.corrections(), 4);
    }

    /** corrections: those that are refused are none. */
    private static void refusedOnesDoNotCount() {
        EnergyLedger x = Scenes.running();
        Check.equal("ahead of it", x.corrections(), 1);
        Check.isTrue("no such member", Check.thrown(x, y -> y.correct(3, 1, 1, 1)) == Check.INDEX);
        Check.isTrue("no such reading", Check.thrown(x, y -> y.correct(0, 1, 5001, 1)) == Check.ARGUMENT);
        Check.isTrue("settled", Check.thrown(x, y -> y.correct(0, 0, 1, 1)) == Check.STATE);
        Check.isTrue("not closed", Check.thrown(x, y -> y.correct(0, 3, 1, 1)) == Check.STATE);
        Check.equal("corrections", x.corrections(), 1);
        x.correct(0, 1, 1, 1);
        Check.equal("corrections", x.corrections(), 2);
    }

    private static void refusals() {
        int[] noMember = {-1, 3, 6, Integer.MAX_VALUE, Integer.MIN_VALUE};
        for (int member : noMember) {
            Check.refused("correct of no member", Check.INDEX, Scenes::running, x -> x.correct(member, 1, 1, 1));
            Check.refused("correct of no member, all wrong", Check.INDEX, Scenes::running, x -> x.correct(member, 3, -1, 1));
        }
        int[] noSlot = {-1, 48, Integer.MAX_VALUE, Integer.MIN_VALUE};
        for (int slot : noSlot) {
            Check.refused("correct of no slot", Check.INDEX, Scenes::running, x -> x.correct(0, slot, 1, 1));
            Check.refused("correct of no slot, all wrong", Check.INDEX, Scenes::running, x -> x.correct(0, slot, 5001, 1));
        }
        int[] noReading = {-1, 5001, Integer.MAX_VALUE, Integer.MIN_VALUE};
        for (int reading : noReading) {
            Check.refused("correct generated", Check.ARGUMENT, Scenes::running, x -> x.correct(0, 1, reading, 1));
            Check.refused("correct used", Check.ARGUMENT, Scenes::running, x -> x.correct(0, 1, 1, reading));
            Check.refused("correct generated, not closed", Check.ARGUMENT, Scenes::running, x -> x.correct(0, 3, reading, 1));
            Check.refused("correct used, settled", Check.ARGUMENT, Scenes::running, x -> x.correct(0, 0, 1, reading));
        }
        Check.refused("correct of a settled slot", Check.STATE, Scenes::running, x -> x.correct(0, 0, 1, 1));
        Check.refused("correct of the present slot", Check.STATE, Scenes::running, x -> x.correct(0, 3, 1, 1));
        Check.refused("correct of the last slot", Check.STATE, Scenes::running, x -> x.correct(0, 47, 1, 1));
        Check.refused("correct without members", Check.INDEX, EnergyLedger::new, x -> x.correct(0, 0, 0, 0));
    }
}
