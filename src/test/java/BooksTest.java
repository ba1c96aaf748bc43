/**
 * "All together are always 0", after each call of a run; and in each slot what is generated and used goes
 * where it comes from.
 */
public final class BooksTest {
    private static int call;

    public static void main(String[] args) {
        eachCall();
        largeAmounts();
        eachSlot();
        eachRuleAndPrice();
        Check.end("BooksTest");
    }

    private static void together(String what, EnergyLedger x) {
        call++;
        long sum = x.common(0) + x.common(1) + x.common(2);
        for (int m = 0; m < x.members(); m++) {
            sum += x.account(m, false) + x.account(m, true);
        }
        Check.equal("all together after " + what + ", number " + call, sum, 0);
    }

    private static void eachCall() {
        EnergyLedger x = new EnergyLedger();
        together("nothing", x);
        x.settle(10000);
        together("settle without members", x);
        for (int k = 0; k < 3; k++) {
            x.addMember();
            together("addMember", x);
        }
        x.settle(9);
        together("settle without a slot", x);
        x.setRule(2);
        x.setPrices(41, 3, 19);
        x.setBattery(300, 250, 71);
        together("settings", x);
        int[][][] readings = {{{900, 20}, {0, 300}, {5, 45}}, {{0, 500}, {10, 10}, {0, 77}}, {{3, 0}, {1, 9}, {700, 8}}};
        for (int slot = 0; slot < 3; slot++) {
            for (int m = 0; m < 3; m++) {
                x.meter(m, slot, readings[slot][m][0], readings[slot][m][1]);
            }
            together("meter", x);
            x.close();
            together("close", x);
            x.setPrices(50 - slot, 2 + slot, 10 * slot);
            together("setPrices", x);
        }
        x.setBattery(10, 3, 3);
        together("content that is gone", x);
        for (int slot = 2; slot >= 0; slot--) {
            x.correct(slot, slot, 33, 700);
            together("correct", x);
        }
        x.settle(10000);
        together("settle", x);
        x.pay(0, 1000000);
        together("pay", x);
        x.pay(1, -1000000);
        together("pay", x);
        x.close();
        x.correct(2, 3, 0, 4000);
        together("correct after settle", x);
        x.settle(0);
        together("settle", x);
    }

    private static void largeAmounts() {
        EnergyLedger x = Scenes.withMembers(6);
        x.setPrices(100, 0, 100);
        for (int slot = 0; slot < 48; slot++) {
            for (int m = 0; m < 6; m++) {
                x.meter(m, slot, 0, 5000);
            }
            x.close();
        }
        Check.equal("the grid", x.common(1), 48L * 6 * 5000 * 100);
        Check.equal("a balance", x.account(5, false), -48L * 5000 * 100);
        together("48 slots of the greatest needs", x);
        x.settle(10000);
        for (int k = 0; k < 20; k++) {
            x.pay(0, -1000000);
        }
        Check.equal("a due", x.account(0, true), -48L * 5000 * 100 - 10000 - 20000000);
        together("what is far below 0", x);
    }

    /** What is generated: used by itself, or given; what is used: of its own, or got; what is given is what is got. */
    private static void eachSlot() {
        for (int rule = 0; rule < 4; rule++) {
            EnergyLedger x = Scenes.running();
            x.setRule(rule);
            x.close();
            for (int slot = 0; slot < 4; slot++) {
                int among = 0;
                for (int m = 0; m < 3; m++) {
                    int[] f = new int[8];
                    for (int what = 0; what < 8; what++) {
                        f[what] = x.flow(slot, m, what);
                    }
                    Check.equal("generated", x.reading(m, slot, false), f[0] + f[4] + f[5] + f[6]);
                    Check.equal("used", x.reading(m, slot, true), f[0] + f[1] + f[2] + f[3]);
                    Check.equal("money", f[7], 20 * (f[4] + f[5] - f[1] - f[2]) + 7 * f[6] - 33 * f[3]);
                    among += f[4] - f[1];
                }
                Check.equal("given and got", among, 0);
            }
        }
    }

    /** Whatever the prices are, also where selling brings more than buying costs. */
    private static void eachRuleAndPrice() {
        int[][] prices = {{0, 0, 0}, {100, 0, 0}, {0, 100, 0}, {0, 0, 100}, {100, 100, 100}};
        for (int rule = 0; rule < 4; rule++) {
            for (int[] p : prices) {
                EnergyLedger x = Scenes.running();
                x.setRule(rule);
                x.setPrices(p[0], p[1], p[2]);
                x.close();
                together("close", x);
                x.meter(2, 4, 5000, 0);
                x.close();
                together("close", x);
                x.correct(0, 1, 0, 5000);
                together("correct", x);
                x.settle(1);
                together("settle", x);
            }
        }
    }
}
