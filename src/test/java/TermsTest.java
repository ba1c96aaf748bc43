import java.util.function.Consumer;

/**
 * "The rule, the prices, shares, ranks, and the capacity, power and efficiency of the battery of the moment at
 * which a slot is closed hold for this slot, also when it is closed anew": each of them on its own.
 */
public final class TermsTest {
    private static final int SHARES = 1;
    private static final int RANK = 3;

    public static void main(String[] args) {
        holds("the rule", SHARES, x -> x.setRule(RANK));
        holds("the price to buy", SHARES, x -> x.setPrices(34, 7, 20));
        holds("the price to sell", SHARES, x -> x.setPrices(33, 6, 20));
        holds("the price among members", SHARES, x -> x.setPrices(33, 7, 21));
        holds("a share", SHARES, x -> x.setMember(1, 70, 1));
        holds("a share of 0", SHARES, x -> x.setMember(2, 0, 2));
        holds("a rank", RANK, x -> x.setMember(1, 10, 9));
        holds("the same rank", RANK, x -> x.setMember(2, 10, 0));
        holds("the capacity", SHARES, x -> x.setBattery(50, 80, 90));
        holds("the power", SHARES, x -> x.setBattery(60, 40, 90));
        holds("the efficiency", SHARES, x -> x.setBattery(60, 80, 80));
        eachSlotItsOwn();
        contentOfTheMoment();
        Check.end("TermsTest");
    }

    /** Slot 0 has more than the battery takes; in slot 1 there is less than the needs, with the battery too. */
    private static EnergyLedger metered(int rule) {
        EnergyLedger x = Scenes.withMembers(3);
        x.setRule(rule);
        x.setPrices(33, 7, 20);
        x.setBattery(60, 80, 90);
        x.setMember(2, 10, 1);
        x.meter(0, 0, 500, 0);
        x.meter(0, 1, 100, 0);
        x.meter(1, 1, 0, 150);
        x.meter(2, 1, 0, 120);
        return x;
    }

    private static EnergyLedger closed(int rule) {
        EnergyLedger x = metered(rule);
        x.close();
        x.close();
        return x;
    }

    private static void holds(String what, int rule, Consumer<EnergyLedger> set) {
        EnergyLedger never = closed(rule);
        EnergyLedger after = closed(rule);
        set.accept(after);
        Check.equal(what + " touches no closed slot", flows(after), flows(never));
        EnergyLedger ahead = metered(rule);
        set.accept(ahead);
        ahead.close();
        ahead.close();
        Check.isTrue(what + " counts when it is set ahead of the close", !flows(ahead).equals(flows(never)));
        int[] corrected = {30, 450};
        for (int generated : corrected) {
            Check.equal(what + ": the change", after.correct(0, 0, generated, 0), never.correct(0, 0, generated, 0));
            Check.equal(what + ": closed anew", flows(after), flows(never));
            Check.equal(what + ": the accounts", accounts(after), accounts(never));
        }
        ahead.correct(0, 0, 450, 0);
        Check.isTrue(what + " of the moment counts when closed anew", !flows(ahead).equals(flows(never)));
    }

    private static String flows(EnergyLedger x) {
        StringBuilder out = new StringBuilder();
        for (int slot = 0; slot < 2; slot++) {
            out.append("content ").append(x.contentAt(slot)).append(':');
            for (int m = 0; m < 3; m++) {
                for (int what = 0; what < 8; what++) {
                    out.append(' ').append(x.flow(slot, m, what));
                }
            }
            out.append("; ");
        }
        return out.toString();
    }

    private static String accounts(EnergyLedger x) {
        StringBuilder out = new StringBuilder();
        for (int m = 0; m < 3; m++) {
            out.append(x.account(m, false)).append(' ').append(x.account(m, true)).append(' ');
        }
        return out.append(x.common(0)).append(' ').append(x.common(1)).append(' ').append(x.common(2)).toString();
    }

    /** Closed anew together, each slot keeps the terms of its own moment. */
    private static void eachSlotItsOwn() {
        EnergyLedger x = Scenes.withMembers(3);
        for (int slot = 0; slot < 3; slot++) {
            x.meter(0, slot, 10, 0);
            x.meter(1, slot, 0, 10);
            x.meter(2, slot, 0, 10);
        }
        x.setRule(RANK);
        x.close();
        x.setRule(0);
        x.setPrices(40, 8, 20);
        x.close();
        x.setRule(RANK);
        x.setMember(2, 10, 0);
        x.close();
        x.setPrices(1, 2, 3);
        x.setMember(2, 0, 99);
        Check.equal("the change", x.correct(0, 0, 12, 0), 2 * 18);
        int[][] got = {{10, 2}, {5, 5}, {0, 10}};
        for (int slot = 0; slot < 3; slot++) {
            Check.equal("got in slot " + slot, x.flow(slot, 1, 1), got[slot][0]);
            Check.equal("got in slot " + slot, x.flow(slot, 2, 1), got[slot][1]);
        }
        Check.equal("the money of slot 0", x.flow(0, 2, 7), -2 * 18 - 8 * 30);
        Check.equal("the money of slot 1", x.flow(1, 2, 7), -5 * 20 - 5 * 40);
        Check.equal("the money of slot 2", x.flow(2, 2, 7), -10 * 20);
        Check.equal("the grid", x.common(1), 8 * 30 + 10 * 40 + 10 * 40);
    }

    /** The content is no term: closed anew, a slot has the one at its own beginning, whatever is there now. */
    private static void contentOfTheMoment() {
        EnergyLedger x = Scenes.withMembers(1);
        x.setBattery(100, 100, 100);
        x.meter(0, 0, 70, 0);
        x.close();
        x.meter(0, 1, 0, 20);
        x.close();
        Check.equal("all is gone", x.setBattery(0, 100, 100), 50);
        Check.equal("the change", x.correct(0, 1, 0, 90), -50 * 18 - 20 * 30);
        Check.equal("contentAt", x.contentAt(1), 70);
        Check.equal("from the battery", x.flow(1, 0, 2), 70);
        Check.equal("content", x.content(), 0);
    }
}
