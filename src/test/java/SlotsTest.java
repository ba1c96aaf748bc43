/** Promises 9 to 12, 14 and 15: readings, the present slot, close, flow and contentAt. */
public final class SlotsTest {
    private static final int[] NO_MEMBER = {-1, 3, 6, Integer.MAX_VALUE, Integer.MIN_VALUE};
    private static final int[] NO_SLOT = {-1, 48, Integer.MAX_VALUE, Integer.MIN_VALUE};
    private static final int[] NO_READING = {-1, 5001, Integer.MAX_VALUE, Integer.MIN_VALUE};

    public static void main(String[] args) {
        meterAndReading();
        meterAtTheEdges();
        presentAndClose();
        flows();
        contentAt();
        refusedMeter();
        refusedClose();
        refusedQuestions();
        Check.end("SlotsTest");
    }

    private static void meterAndReading() {
        EnergyLedger x = Scenes.withMembers(6);
        Check.equal("meter of the same", x.meter(0, 0, 0, 0), false);
        Check.equal("meter of another one", x.meter(0, 0, 5000, 0), true);
        Check.equal("meter of the same", x.meter(0, 0, 5000, 0), false);
        Check.equal("meter of another use", x.meter(0, 0, 5000, 1), true);
        Check.equal("meter of another generation", x.meter(0, 0, 4999, 1), true);
        Check.equal("meter swapped", x.meter(0, 0, 1, 4999), true);
        Check.equal("meter of the last slot", x.meter(5, 47, 3, 5000), true);
        Check.equal("generated", x.reading(0, 0, false), 1);
        Check.equal("used", x.reading(0, 0, true), 4999);
        Check.equal("generated", x.reading(5, 47, false), 3);
        Check.equal("used", x.reading(5, 47, true), 5000);
        Check.equal("of another member", x.reading(4, 47, true), 0);
        Check.equal("of another slot", x.reading(5, 46, false), 0);
        x.close();
        Check.equal("reading of a closed slot", x.reading(0, 0, true), 4999);
        Check.equal("meter of the present slot", x.meter(0, 1, 0, 7), true);
        Check.equal("meter back to 0", x.meter(0, 1, 0, 0), true);
    }

    /** From 0 to 5000 and back, each alone and both; ahead of its time, up to the last slot. */
    private static void meterAtTheEdges() {
        int[][] readings = {{0, 5000}, {5000, 5000}, {5000, 0}, {4999, 0}, {4999, 1}, {0, 1}, {1, 1}, {1, 0}, {0, 0}};
        EnergyLedger x = Scenes.withMembers(6);
        for (int slot = 0; slot < 48; slot += 47) {
            for (int m = 0; m < 6; m += 5) {
                for (int[] r : readings) {
                    Check.isTrue("another one", x.meter(m, slot, r[0], r[1]));
                    Check.isTrue("the same", !x.meter(m, slot, r[0], r[1]));
                    Check.equal("generated", x.reading(m, slot, false), r[0]);
                    Check.equal("used", x.reading(m, slot, true), r[1]);
                }
            }
        }
        EnergyLedger ahead = Scenes.withMembers(2);
        ahead.meter(0, 47, 5000, 0);
        ahead.meter(1, 47, 0, 5000);
        for (int slot = 0; slot < 47; slot++) {
            Check.equal("close", ahead.close(), 0);
            Check.equal("the last slot is still open", ahead.flow(47, 0, 4), 0);
        }
        Check.equal("the same as ahead of its time", ahead.meter(1, 47, 0, 5000), false);
        Check.equal("close of the last slot", ahead.close(), 5000);
        Check.equal("flow of the last slot", ahead.flow(47, 1, 1), 5000);
        Check.isTrue("now it is closed", Check.thrown(ahead, y -> y.meter(1, 47, 0, 1)) == Check.STATE);
        Check.equal("its reading", ahead.reading(1, 47, true), 5000);
    }

    private static void presentAndClose() {
        EnergyLedger x = Scenes.withMembers(2);
        x.meter(0, 0, 100, 0);
        x.meter(1, 0, 0, 30);
        x.meter(0, 1, 0, 50);
        x.meter(1, 1, 45, 5);
        Check.equal("close", x.close(), 30);
        Check.equal("present", x.present(), 1);
        Check.equal("close", x.close(), 40);
        Check.equal("present", x.present(), 2);
        for (int slot = 2; slot < 48; slot++) {
            Check.equal("close of an empty slot", x.close(), 0);
        }
        Check.equal("present when all are closed", x.present(), 48);
        EnergyLedger own = Scenes.withMembers(1);
        own.meter(0, 0, 10, 10);
        Check.equal("what is used of one's own goes to nobody", own.close(), 0);
        EnergyLedger battery = Scenes.withMembers(1);
        battery.setBattery(100, 100, 100);
        battery.meter(0, 0, 10, 0);
        Check.equal("what the battery takes goes to no member", battery.close(), 0);
    }

    private static void flows() {
        EnergyLedger x = Scenes.withMembers(3);
        x.setPrices(50, 3, 11);
        x.setBattery(1000, 60, 50);
        x.meter(0, 0, 1000, 200);
        x.meter(1, 0, 100, 500);
        x.meter(2, 0, 0, 300);
        checkFlows("not closed", x, 0, 0, 0, 0, 0, 0, 0, 0, 0, 0);
        x.close();
        // 800 of surplus, 700 of need; 60 of the rest of 100 into the battery, 40 to the grid
        checkFlows("the giver", x, 0, 0, 200, 0, 0, 0, 700, 60, 40, 700 * 11 + 60 * 11 + 40 * 3);
        checkFlows("a taker", x, 0, 1, 100, 400, 0, 0, 0, 0, 0, -400 * 11);
        checkFlows("a taker", x, 0, 2, 0, 300, 0, 0, 0, 0, 0, -300 * 11);
        checkFlows("the next slot is not closed", x, 1, 0, 0, 0, 0, 0, 0, 0, 0, 0);
        x.meter(0, 1, 5, 0);
        x.meter(1, 1, 0, 41);
        x.meter(2, 1, 0, 4);
        x.close();
        // EQUAL: 5 among members is 2 and 2, then 1; 30 of the battery among needs of 38 and 2
        checkFlows("the giver", x, 1, 0, 0, 0, 0, 0, 5, 0, 0, 55);
        checkFlows("a taker", x, 1, 1, 0, 3, 28, 10, 0, 0, 0, -31 * 11 - 10 * 50);
        checkFlows("a taker", x, 1, 2, 0, 2, 2, 0, 0, 0, 0, -4 * 11);
        Check.equal("a closed slot stays as it is", x.flow(0, 0, 4), 700);
        Check.equal("the last slot", x.flow(47, 2, 7), 0);
        x.setPrices(1, 1, 1);
        Check.equal("later prices change no closed slot", x.flow(1, 1, 7), -31 * 11 - 10 * 50);
        x.meter(0, 2, 100, 0);
        Check.isTrue("would ahead of a close", x.would(0, 0) != 0);
        Check.equal("would closes nothing", x.flow(2, 0, 5) + x.flow(2, 0, 7), 0);
    }

    private static void checkFlows(String what, EnergyLedger x, int slot, int member, int... due) {
        for (int k = 0; k < 8; k++) {
            Check.equal(what + ": flow(" + slot + ", " + member + ", " + k + ")", x.flow(slot, member, k), due[k]);
        }
    }

    private static void contentAt() {
        EnergyLedger x = Scenes.withMembers(1);
        x.setBattery(100, 60, 100);
        x.meter(0, 0, 500, 0);
        Check.equal("contentAt of an open slot", x.contentAt(0), -1);
        x.close();
        Check.equal("contentAt", x.contentAt(0), 0);
        Check.equal("contentAt of the present slot", x.contentAt(1), -1);
        x.meter(0, 1, 500, 0);
        x.close();
        Check.equal("contentAt", x.contentAt(1), 60);
        x.setBattery(70, 5, 100);
        x.meter(0, 2, 0, 9);
        x.close();
        Check.equal("contentAt after some is gone", x.contentAt(2), 70);
        x.close();
        Check.equal("contentAt", x.contentAt(3), 65);
        Check.equal("contentAt of the last slot", x.contentAt(47), -1);
    }

    private static void refusedMeter() {
        for (int member : NO_MEMBER) {
            Check.refused("meter of no member", Check.INDEX, Scenes::running, x -> x.meter(member, 4, 1, 1));
            Check.refused("meter of no member, all wrong", Check.INDEX, Scenes::running, x -> x.meter(member, 0, -1, 1));
        }
        for (int slot : NO_SLOT) {
            Check.refused("meter of no slot", Check.INDEX, Scenes::running, x -> x.meter(0, slot, 1, 1));
            Check.refused("meter of no slot, all wrong", Check.INDEX, Scenes::running, x -> x.meter(0, slot, 1, 5001));
        }
        for (int reading : NO_READING) {
            Check.refused("meter generated", Check.ARGUMENT, Scenes::running, x -> x.meter(0, 3, reading, 1));
            Check.refused("meter used", Check.ARGUMENT, Scenes::running, x -> x.meter(0, 3, 1, reading));
            Check.refused("meter generated, closed", Check.ARGUMENT, Scenes::running, x -> x.meter(0, 2, reading, 1));
            Check.refused("meter used, closed", Check.ARGUMENT, Scenes::running, x -> x.meter(0, 2, 1, reading));
        }
        Check.refused("meter of a closed slot", Check.STATE, Scenes::running, x -> x.meter(0, 2, 1, 1));
        Check.refused("meter of a settled slot", Check.STATE, Scenes::running, x -> x.meter(0, 0, 1, 1));
        Check.refused("meter of the last slot, closed", Check.STATE, Scenes::full, x -> x.meter(0, 47, 1, 1));
        Check.refused("meter without members", Check.INDEX, EnergyLedger::new, x -> x.meter(0, 0, 0, 0));
    }

    private static void refusedClose() {
        Check.refused("close without members", Check.STATE, EnergyLedger::new, x -> x.close());
        Check.refused("close of a 49th slot", Check.STATE, Scenes::full, x -> x.close());
    }

    private static void refusedQuestions() {
        for (int member : NO_MEMBER) {
            Check.refused("reading", Check.INDEX, Scenes::running, x -> x.reading(member, 0, true));
            Check.refused("flow", Check.INDEX, Scenes::running, x -> x.flow(0, member, 0));
            Check.refused("flow of an open slot", Check.INDEX, Scenes::running, x -> x.flow(40, member, 0));
        }
        for (int slot : NO_SLOT) {
            Check.refused("reading", Check.INDEX, Scenes::running, x -> x.reading(0, slot, false));
            Check.refused("flow", Check.INDEX, Scenes::running, x -> x.flow(slot, 0, 0));
            Check.refused("contentAt", Check.INDEX, Scenes::running, x -> x.contentAt(slot));
        }
        int[] noFlow = {-1, 8, Integer.MAX_VALUE, Integer.MIN_VALUE};
        for (int what : noFlow) {
            Check.refused("flow", Check.INDEX, Scenes::running, x -> x.flow(0, 0, what));
            Check.refused("flow of an open slot", Check.INDEX, Scenes::running, x -> x.flow(40, 0, what));
        }
    }
}
