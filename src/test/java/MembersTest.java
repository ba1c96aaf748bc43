/** Promises 1 to 8: a new object, members, the rule, prices and the battery. */
public final class MembersTest {
    public static void main(String[] args) {
        newObject();
        addMember();
        sixMembers();
        firstValues();
        setMember();
        settingsAtAnyTime();
        setRule();
        setPrices();
        setBattery();
        refusals();
        Check.end("MembersTest");
    }

    private static void newObject() {
        EnergyLedger x = new EnergyLedger();
        Check.equal("members of a new object", x.members(), 0);
        Check.equal("present of a new object", x.present(), 0);
        Check.equal("content of a new object", x.content(), 0);
        Check.equal("contentAt of a new object", x.contentAt(0), -1);
        Check.equal("corrections of a new object", x.corrections(), 0);
        for (int which = 0; which < 3; which++) {
            Check.equal("common of a new object", x.common(which), 0);
        }
        Check.equal("settle of a new object", x.settle(10000), 0);
        Check.equal("pot without members", x.common(0), 0);
        Check.equal("late of a new object", x.late(0), 0);
        Check.equal("independence of a new object", x.independence(), 1.0);
        EnergyLedger other = new EnergyLedger();
        other.addMember();
        Check.equal("another object has members of its own", x.members(), 0);
    }

    private static void addMember() {
        EnergyLedger x = new EnergyLedger();
        for (int k = 0; k < 6; k++) {
            Check.equal("addMember", x.addMember(), k);
            Check.equal("members", x.members(), k + 1);
            Check.equal("balance of a new member", x.account(k, false), 0);
            Check.equal("due of a new member", x.account(k, true), 0);
            Check.equal("reading of a new member", x.reading(k, 0, false) + x.reading(k, 47, true), 0);
        }
        EnergyLedger late = Scenes.withMembers(1);
        late.setRule(2);
        late.settle(3);
        Check.equal("a member may come after settle while no slot is closed", late.addMember(), 1);
        Check.equal("who comes later owes no fee of before", late.account(1, true), 0);
    }

    /** The sixth is the last one; what each of them has at first is in the digest: 10, its number, 0 and 0. */
    private static void sixMembers() {
        EnergyLedger x = new EnergyLedger();
        for (int k = 0; k < 6; k++) {
            x.addMember();
            long d = (((199L * 31 + (k + 1)) * 31) * 31) * 31;
            for (int m = 0; m <= k; m++) {
                d = (((d * 31 + 10) * 31 + m) * 31) * 31;
            }
            Check.equal("digest of " + (k + 1) + " members", x.digest(), d * 31 * 31 * 31 * 31 * 31);
        }
        Check.isTrue("a seventh", Check.thrown(x, y -> y.addMember()) == Check.STATE);
        Check.equal("members", x.members(), 6);
        Check.isTrue("an eighth", Check.thrown(x, y -> y.addMember()) == Check.STATE);
        Check.equal("members", x.members(), 6);
        Check.equal("what else is asked of six goes on", x.close(), 0);
        Check.equal("members", x.members(), 6);
        EnergyLedger one = Scenes.withMembers(1);
        one.meter(0, 0, 1, 1);
        one.would(0, 0);
        one.bestRule(0);
        Check.equal("as long as no slot is closed, one may come", one.addMember(), 1);
        one.close();
        Check.isTrue("then not", Check.thrown(one, y -> y.addMember()) == Check.STATE);
        one.settle(0);
        Check.isTrue("nor when it is settled", Check.thrown(one, y -> y.addMember()) == Check.STATE);
        Check.equal("members", one.members(), 2);
    }

    /** No setting is bound to a time: the same calls when nothing, something, and all is closed or settled. */
    private static void settingsAtAnyTime() {
        EnergyLedger[] ledgers = {Scenes.withMembers(2), Scenes.closed(1), Scenes.full(), Scenes.settled()};
        for (EnergyLedger x : ledgers) {
            int content = x.content();
            Check.equal("setMember", x.setMember(1, 100, 99), 10);
            Check.equal("setMember", x.setMember(1, 0, 0), 100);
            Check.equal("setRule", x.setRule(3), 0);
            Check.equal("setRule", x.setRule(1), 3);
            Check.equal("setPrices", x.setPrices(0, 0, 100), 18);
            Check.equal("setPrices", x.setPrices(0, 0, 0), 100);
            Check.equal("setBattery, just the content", x.setBattery(content, 0, 1), 0);
            Check.equal("content", x.content(), content);
            Check.equal("setBattery, nothing", x.setBattery(0, 0, 1), content);
            Check.equal("content", x.content(), 0);
        }
    }

    private static void firstValues() {
        EnergyLedger x = Scenes.withMembers(3);
        for (int k = 0; k < 3; k++) {
            Check.equal("the first share", x.setMember(k, 50, 0), 10);
        }
        Check.equal("the first rule", x.setRule(0), 0);
        Check.equal("the first price among members", x.setPrices(30, 8, 18), 18);
        EnergyLedger ranks = Scenes.withMembers(4);
        ranks.setRule(3);
        ranks.meter(3, 0, 15, 0);
        for (int k = 0; k < 3; k++) {
            ranks.meter(k, 0, 0, 10);
        }
        ranks.close();
        Check.equal("the first rank is the number", ranks.flow(0, 0, 1), 10);
        Check.equal("the first rank is the number", ranks.flow(0, 1, 1), 5);
        ranks.setMember(0, 10, 1);
        ranks.meter(3, 1, 15, 0);
        ranks.meter(0, 1, 0, 10);
        ranks.meter(1, 1, 0, 10);
        ranks.close();
        Check.equal("of the same rank the smaller number", ranks.flow(1, 0, 1), 10);
        ranks.setMember(0, 10, 2);
        ranks.meter(3, 2, 15, 0);
        ranks.meter(0, 2, 0, 10);
        ranks.meter(1, 2, 0, 10);
        ranks.close();
        Check.equal("the first rank of 1 goes ahead of 2", ranks.flow(2, 1, 1), 10);
        EnergyLedger grid = Scenes.withMembers(1);
        grid.meter(0, 0, 0, 1);
        grid.close();
        grid.meter(0, 1, 1, 0);
        grid.close();
        Check.equal("the first price to buy", grid.flow(0, 0, 7), -30);
        Check.equal("the first price to sell", grid.flow(1, 0, 7), 8);
        Check.equal("the first battery takes nothing", grid.flow(1, 0, 5), 0);
    }

    private static void setMember() {
        EnergyLedger x = Scenes.withMembers(2);
        Check.equal("setMember", x.setMember(1, 100, 99), 10);
        Check.equal("setMember", x.setMember(1, 0, 0), 100);
        Check.equal("setMember", x.setMember(1, 7, 5), 0);
        Check.equal("setMember of another one", x.setMember(0, 7, 5), 10);
        EnergyLedger y = Scenes.withMembers(2);
        y.setMember(1, 7, 5);
        y.setMember(0, 7, 5);
        Check.equal("what counts is the last setting", x.digest(), y.digest());
        x.setMember(0, 7, 6);
        Check.isTrue("the rank counts", x.digest() != y.digest());
    }

    private static void setRule() {
        EnergyLedger x = new EnergyLedger();
        Check.equal("setRule", x.setRule(3), 0);
        Check.equal("setRule", x.setRule(2), 3);
        Check.equal("setRule", x.setRule(1), 2);
        Check.equal("setRule", x.setRule(0), 1);
        Check.equal("setRule", x.setRule(0), 0);
    }

    private static void setPrices() {
        EnergyLedger x = Scenes.withMembers(2);
        Check.equal("setPrices", x.setPrices(0, 0, 0), 18);
        Check.equal("setPrices", x.setPrices(100, 99, 98), 0);
        Check.equal("setPrices", x.setPrices(100, 99, 97), 98);
        x.meter(0, 0, 0, 10);
        x.meter(1, 0, 4, 0);
        x.close();
        Check.equal("the price to buy and among", x.flow(0, 0, 7), -6 * 100 - 4 * 97);
        x.meter(0, 1, 0, 10);
        x.meter(1, 1, 14, 0);
        x.close();
        Check.equal("the price to sell and among", x.flow(1, 1, 7), 4 * 99 + 10 * 97);
    }

    private static void setBattery() {
        EnergyLedger x = Scenes.withMembers(1);
        Check.equal("setBattery", x.setBattery(20000, 5000, 100), 0);
        x.meter(0, 0, 5000, 0);
        x.close();
        Check.equal("content", x.content(), 5000);
        Check.equal("nothing is gone, one more than the content", x.setBattery(5001, 0, 1), 0);
        Check.equal("nothing is gone, just the content", x.setBattery(5000, 0, 1), 0);
        Check.equal("content", x.content(), 5000);
        Check.equal("what is above is gone", x.setBattery(4999, 0, 1), 1);
        Check.equal("content", x.content(), 4999);
        Check.equal("what is gone is gone", x.setBattery(20000, 5000, 100), 0);
        Check.equal("content", x.content(), 4999);
        Check.equal("all is gone", x.setBattery(0, 0, 50), 4999);
        Check.equal("content", x.content(), 0);
        Check.equal("no account moves", x.common(0), -5000 * 18);
        Check.equal("nor that of the member", x.account(0, false), 5000 * 18);
        Check.equal("contentAt of the closed slot stays", x.contentAt(0), 0);
    }

    private static void refusals() {
        Check.refused("a seventh member", Check.STATE, () -> Scenes.withMembers(6), x -> x.addMember());
        Check.refused("a member after some closes", Check.STATE, Scenes::running, x -> x.addMember());
        Check.refused("a member after one close", Check.STATE, MembersTest::closedOnce, x -> x.addMember());

        int[] noMember = {-1, 3, 6, Integer.MAX_VALUE, Integer.MIN_VALUE};
        for (int member : noMember) {
            Check.refused("setMember of none", Check.INDEX, Scenes::running, x -> x.setMember(member, 1, 1));
            Check.refused("setMember of none, wrong share", Check.INDEX, Scenes::running, x -> x.setMember(member, -1, 1));
        }
        Check.refused("setMember without members", Check.INDEX, EnergyLedger::new, x -> x.setMember(0, 1, 1));
        int[][] wrongMember = {{-1, 1}, {101, 1}, {1, -1}, {1, 100}, {Integer.MIN_VALUE, 0}, {0, Integer.MAX_VALUE}};
        for (int[] w : wrongMember) {
            Check.refused("setMember", Check.ARGUMENT, Scenes::running, x -> x.setMember(2, w[0], w[1]));
        }
        int[] wrongRule = {-1, 4, Integer.MAX_VALUE, Integer.MIN_VALUE};
        for (int rule : wrongRule) {
            Check.refused("setRule", Check.ARGUMENT, Scenes::running, x -> x.setRule(rule));
        }
        int[][] wrongPrices = {{-1, 1, 1}, {101, 1, 1}, {1, -1, 1}, {1, 101, 1}, {1, 1, -1}, {1, 1, 101}};
        for (int[] w : wrongPrices) {
            Check.refused("setPrices", Check.ARGUMENT, Scenes::running, x -> x.setPrices(w[0], w[1], w[2]));
        }
        int[][] wrongBattery = {{-1, 1, 1}, {20001, 1, 1}, {1, -1, 1}, {1, 5001, 1}, {1, 1, 0}, {1, 1, 101}, {1, 1, -1}};
        for (int[] w : wrongBattery) {
            Check.refused("setBattery", Check.ARGUMENT, Scenes::running, x -> x.setBattery(w[0], w[1], w[2]));
        }
    }

    private static EnergyLedger closedOnce() {
        EnergyLedger x = Scenes.withMembers(1);
        x.close();
        return x;
    }
}
