/** Promises 16 and 17: would and bestRule. */
public final class TrialTest {
    public static void main(String[] args) {
        would();
        wouldIsWhatCloseDoes();
        wouldChangesNothing();
        bestRule();
        severalBest();
        wouldAtTheEdges();
        refusals();
        Check.end("TrialTest");
    }

    /** Three members with needs, for whom the rules differ, and one that gives less than they need. */
    private static EnergyLedger eachRuleApart() {
        EnergyLedger x = Scenes.withMembers(4);
        x.setMember(0, 1, 9);
        x.setMember(1, 3, 5);
        x.setMember(2, 0, 7);
        x.meter(0, 0, 0, 10);
        x.meter(1, 0, 0, 20);
        x.meter(2, 0, 0, 30);
        x.meter(3, 0, 24, 0);
        return x;
    }

    private static void would() {
        EnergyLedger x = eachRuleApart();
        int[][] got = {{8, 8, 8}, {6, 18, 0}, {4, 8, 12}, {0, 20, 4}};
        for (int rule = 0; rule < 4; rule++) {
            for (int m = 0; m < 3; m++) {
                int needed = 10 * (m + 1);
                Check.equal("would(" + m + ", " + rule + ")", x.would(m, rule),
                        -18 * got[rule][m] - 30 * (needed - got[rule][m]));
            }
            Check.equal("would of the giver", x.would(3, rule), 24 * 18);
        }
        EnergyLedger empty = Scenes.withMembers(1);
        Check.equal("would of an empty slot", empty.would(0, 3), 0);
        EnergyLedger sells = Scenes.withMembers(1);
        sells.setBattery(3, 9, 100);
        sells.meter(0, 0, 10, 0);
        Check.equal("would with battery and grid", sells.would(0, 0), 3 * 18 + 7 * 8);
        sells.close();
        sells.meter(0, 1, 0, 10);
        Check.equal("would with the content of now", sells.would(0, 0), -3 * 18 - 7 * 30);
        sells.setPrices(1, 1, 2);
        Check.equal("would with the prices of now", sells.would(0, 0), -3 * 2 - 7);
    }

    private static void wouldIsWhatCloseDoes() {
        for (int rule = 0; rule < 4; rule++) {
            EnergyLedger x = Scenes.running();
            x.setRule(rule);
            int[] due = {x.would(0, rule), x.would(1, rule), x.would(2, rule)};
            x.setRule((rule + 1) % 4);
            Check.equal("the rule of now does not matter", x.would(1, rule), due[1]);
            x.setRule(rule);
            x.close();
            for (int m = 0; m < 3; m++) {
                Check.equal("would is what close does", due[m], x.flow(3, m, 7));
            }
        }
    }

    private static void wouldChangesNothing() {
        EnergyLedger x = Scenes.running();
        long before = x.digest();
        for (int rule = 0; rule < 4; rule++) {
            x.would(1, rule);
            x.bestRule(2);
        }
        Check.equal("the digest", x.digest(), before);
        Check.equal("the rule", x.setRule(1), 1);
        Check.equal("contentAt", x.contentAt(3), -1);
        x.close();
        EnergyLedger y = Scenes.running();
        y.close();
        Check.equal("the close thereafter", x.digest(), y.digest());
    }

    private static void bestRule() {
        Check.equal("all alike", Scenes.withMembers(4).bestRule(0), 0);
        EnergyLedger x = eachRuleApart();
        Check.equal("bestRule", x.bestRule(0), 0);
        Check.equal("bestRule", x.bestRule(1), 3);
        Check.equal("bestRule", x.bestRule(2), 2);
        Check.equal("bestRule of the giver", x.bestRule(3), 0);
        x.setMember(1, 99, 5);
        Check.equal("of several the smallest", x.bestRule(1), 1);
        x.setPrices(1, 8, 18);
        Check.equal("the grid is cheaper", x.bestRule(2), 1);
        Check.equal("the grid is cheaper", x.bestRule(1), 0);
        x.setRule(3);
        Check.equal("the rule of now does not matter", x.bestRule(1), 0);
        EnergyLedger gains = Scenes.withMembers(1);
        gains.meter(0, 0, 10, 0);
        Check.equal("what it gets is alike", gains.bestRule(0), 0);
        EnergyLedger last = Scenes.withMembers(1);
        for (int slot = 0; slot < 47; slot++) {
            last.close();
        }
        last.meter(0, 47, 0, 2);
        Check.equal("would of the last slot", last.would(0, 1), -60);
        Check.equal("bestRule of the last slot", last.bestRule(0), 0);
    }

    /** "Of several the one with the smallest number", also where the greatest is below 0, at 0 and above it. */
    private static void severalBest() {
        EnergyLedger x = Scenes.withMembers(4);
        x.meter(0, 0, 0, 10);
        x.meter(1, 0, 0, 30);
        x.meter(2, 0, 0, 20);
        x.meter(3, 0, 40, 0);
        x.setMember(1, 0, 9);
        x.setMember(0, 10, 2);
        x.setMember(2, 10, 1);
        // what the second gets: EQUAL 15, SHARES 10, ROOM 20, RANK 10
        Check.equal("one alone, ROOM", x.bestRule(1), 2);
        x.setMember(0, 10, 10);
        x.setMember(2, 10, 8);
        Check.equal("ROOM and RANK", x.would(1, 2), x.would(1, 3));
        Check.equal("ROOM and RANK", x.bestRule(1), 2);
        x.setMember(1, 0, 0);
        Check.equal("one alone, RANK", x.bestRule(1), 3);
        x.setMember(1, 100, 0);
        Check.equal("SHARES and RANK", x.would(1, 1), x.would(1, 3));
        Check.equal("SHARES and RANK", x.bestRule(1), 1);
        x.setMember(1, 100, 9);
        Check.equal("one alone, SHARES", x.bestRule(1), 1);
        x.setMember(2, 100, 99);
        x.setMember(0, 0, 98);
        x.setMember(1, 100, 97);
        Check.equal("EQUAL, SHARES, ROOM differ", x.bestRule(1), 3);
        x.setPrices(18, 8, 18);
        Check.equal("all alike below 0", x.bestRule(1), 0);
        x.setPrices(0, 0, 0);
        Check.equal("all alike at 0", x.bestRule(1), 0);
        x.setPrices(30, 8, 18);
        Check.equal("all alike above 0", x.bestRule(3), 0);
        // needs of 5 and 10, 10 for them: EQUAL 5, SHARES 3, ROOM 4, RANK 5
        EnergyLedger y = Scenes.withMembers(3);
        y.meter(0, 0, 0, 5);
        y.meter(1, 0, 0, 10);
        y.meter(2, 0, 10, 0);
        y.setMember(0, 1, 0);
        y.setMember(1, 3, 1);
        int[] got = {5, 3, 4, 5};
        for (int rule = 0; rule < 4; rule++) {
            Check.equal("would by " + rule, y.would(0, rule), -18 * got[rule] - 30 * (5 - got[rule]));
        }
        Check.equal("EQUAL and RANK", y.bestRule(0), 0);
        y.setPrices(0, 0, 1);
        Check.equal("the least is the best, SHARES", y.bestRule(0), 1);
    }

    /** The first and the last slot, the greatest amounts, and a battery that has nothing or is full. */
    private static void wouldAtTheEdges() {
        EnergyLedger x = Scenes.withMembers(1);
        x.setPrices(100, 100, 100);
        for (int slot = 0; slot < 48; slot++) {
            x.meter(0, slot, 5000, 0);
            Check.equal("would of all that is generated", x.would(0, slot % 4), 500000);
            x.meter(0, slot, 0, 5000);
            Check.equal("would of all that is used", x.would(0, slot % 4), -500000);
            x.close();
        }
        Check.isTrue("no slot is left", Check.thrown(x, y -> y.would(0, 0)) == Check.STATE);
        EnergyLedger b = Scenes.withMembers(1);
        b.setBattery(10, 10, 100);
        b.meter(0, 0, 0, 10);
        Check.equal("the battery is empty", b.would(0, 0), -300);
        b.meter(0, 0, 10, 0);
        Check.equal("it takes all", b.would(0, 0), 180);
        b.close();
        b.meter(0, 1, 10, 0);
        Check.equal("it is full", b.would(0, 0), 80);
        b.meter(0, 1, 0, 10);
        Check.equal("it gives all", b.would(0, 0), -180);
        Check.equal("content", b.content(), 10);
        b.setBattery(9, 10, 100);
        Check.equal("one is gone", b.would(0, 0), -9 * 18 - 30);
    }

    private static void refusals() {
        int[] noMember = {-1, 3, 6, Integer.MAX_VALUE, Integer.MIN_VALUE};
        for (int member : noMember) {
            Check.refused("would of no member", Check.INDEX, Scenes::running, x -> x.would(member, 0));
            Check.refused("would of no member, wrong rule", Check.INDEX, Scenes::running, x -> x.would(member, 4));
            Check.refused("would of no member, all closed", Check.INDEX, Scenes::full, x -> x.would(member, 4));
            Check.refused("bestRule of no member", Check.INDEX, Scenes::running, x -> x.bestRule(member));
            Check.refused("bestRule of no member, all closed", Check.INDEX, Scenes::full, x -> x.bestRule(member));
        }
        int[] noRule = {-1, 4, Integer.MAX_VALUE, Integer.MIN_VALUE};
        for (int rule : noRule) {
            Check.refused("would by no rule", Check.ARGUMENT, Scenes::running, x -> x.would(0, rule));
            Check.refused("would by no rule, all closed", Check.ARGUMENT, Scenes::full, x -> x.would(0, rule));
        }
        Check.refused("would when all are closed", Check.STATE, Scenes::full, x -> x.would(1, 3));
        Check.refused("bestRule when all are closed", Check.STATE, Scenes::full, x -> x.bestRule(1));
        Check.refused("would without members", Check.INDEX, EnergyLedger::new, x -> x.would(0, 0));
        Check.refused("bestRule without members", Check.INDEX, EnergyLedger::new, x -> x.bestRule(0));
    }
}
