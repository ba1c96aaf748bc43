/** Ledgers that several tests begin with. */
final class Scenes {
    private Scenes() {
    }

    static EnergyLedger withMembers(int count) {
        EnergyLedger x = new EnergyLedger();
        for (int k = 0; k < count; k++) {
            x.addMember();
        }
        return x;
    }

    /** Three members, a battery, prices of its own, and readings in slot 0; no slot is closed. */
    static EnergyLedger open() {
        EnergyLedger x = withMembers(3);
        x.setMember(1, 40, 7);
        x.setMember(2, 20, 1);
        x.setRule(1);
        x.setPrices(33, 7, 20);
        x.setBattery(1000, 400, 90);
        x.meter(0, 0, 900, 100);
        x.meter(1, 0, 0, 300);
        x.meter(2, 0, 10, 200);
        return x;
    }

    /** The same with four slots, of which 0 is settled, 1 and 2 are closed, and 3 is open and has readings. */
    static EnergyLedger running() {
        EnergyLedger x = open();
        x.close();
        x.settle(5);
        x.pay(1, 300);
        x.meter(0, 1, 700, 50);
        x.meter(1, 1, 0, 80);
        x.close();
        x.meter(1, 2, 0, 250);
        x.meter(2, 2, 0, 251);
        x.close();
        x.correct(0, 1, 800, 60);
        x.meter(0, 3, 400, 0);
        x.meter(1, 3, 0, 300);
        x.meter(2, 3, 0, 500);
        return x;
    }

    /** So many members, of which each has readings in slot 0, which is closed, and in slot 1, which is not. */
    static EnergyLedger crowd(int count) {
        EnergyLedger x = withMembers(count);
        x.setBattery(2000, 700, 95);
        for (int k = 0; k < count; k++) {
            x.meter(k, 0, 300 * k, 1000 - 200 * k);
            x.meter(k, 1, 100 + k, 40 * k);
        }
        if (count > 0) {
            x.close();
        }
        return x;
    }

    /** Two members and so many closed slots. */
    static EnergyLedger closed(int slots) {
        EnergyLedger x = withMembers(2);
        x.setBattery(50, 5, 100);
        x.meter(0, 0, 12, 3);
        x.meter(0, 47, 10, 0);
        for (int slot = 0; slot < slots; slot++) {
            x.close();
        }
        return x;
    }

    /** Two members and 48 closed slots. */
    static EnergyLedger full() {
        return closed(48);
    }

    /** The same, all settled. */
    static EnergyLedger settled() {
        EnergyLedger x = full();
        x.settle(7);
        return x;
    }
}
