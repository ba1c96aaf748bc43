import java.util.LinkedHashMap;
import java.util.List;
import java.util.Map;
import java.util.function.ObjIntConsumer;
import java.util.function.Supplier;

/** For each argument of each call: the last value that is allowed and the first that is not, on each side. */
public final class BoundsTest {
    private static final int LAST_SLOT = 47;

    public static void main(String[] args) {
        members();
        slots();
        settings();
        readings();
        money();
        others();
        slotsThatAreOpen();
        slotsThatAreClosed();
        Check.end("BoundsTest");
    }

    /** "if there is no such member": numbers count from 0 to one less than the members that there are. */
    private static void members() {
        Map<String, ObjIntConsumer<EnergyLedger>> calls = new LinkedHashMap<>();
        calls.put("setMember", (x, member) -> x.setMember(member, 3, 3));
        calls.put("meter", (x, member) -> x.meter(member, 1, 7, 8));
        calls.put("reading, generated", (x, member) -> x.reading(member, 0, false));
        calls.put("reading, used", (x, member) -> x.reading(member, 1, true));
        calls.put("correct", (x, member) -> x.correct(member, 0, 7, 8));
        calls.put("flow of a closed slot", (x, member) -> x.flow(0, member, 7));
        calls.put("flow of an open slot", (x, member) -> x.flow(1, member, 0));
        calls.put("would", (x, member) -> x.would(member, 1));
        calls.put("bestRule", (x, member) -> x.bestRule(member));
        calls.put("account, balance", (x, member) -> x.account(member, false));
        calls.put("account, due", (x, member) -> x.account(member, true));
        calls.put("pay", (x, member) -> x.pay(member, 1));
        for (Map.Entry<String, ObjIntConsumer<EnergyLedger>> call : calls.entrySet()) {
            for (int count = 1; count <= 6; count++) {
                int members = count;
                String what = call.getKey() + " of " + count + " members";
                Check.bounds(what, Check.INDEX, () -> Scenes.crowd(members), 0, count - 1, call.getValue());
            }
            int[] none = {-1, 0, 1, 5, 6, Integer.MIN_VALUE, Integer.MAX_VALUE};
            for (int member : none) {
                Check.refused(call.getKey() + " without members", Check.INDEX, EnergyLedger::new,
                        x -> call.getValue().accept(x, member));
            }
        }
    }

    /** "slot is not 0 to 47" */
    private static void slots() {
        Check.bounds("meter, slot", Check.INDEX, Scenes::open, 0, LAST_SLOT, (x, slot) -> x.meter(2, slot, 1, 1));
        Check.bounds("correct, slot", Check.INDEX, Scenes::full, 0, LAST_SLOT, (x, slot) -> x.correct(1, slot, 1, 1));
        for (Supplier<EnergyLedger> scene : everyScene()) {
            Check.bounds("reading, slot", Check.INDEX, scene, 0, LAST_SLOT, (x, slot) -> x.reading(1, slot, true));
            Check.bounds("flow, slot", Check.INDEX, scene, 0, LAST_SLOT, (x, slot) -> x.flow(slot, 1, 7));
            Check.bounds("contentAt, slot", Check.INDEX, scene, 0, LAST_SLOT, (x, slot) -> x.contentAt(slot));
        }
        Check.bounds("contentAt without members", Check.INDEX, EnergyLedger::new, 0, LAST_SLOT,
                (x, slot) -> x.contentAt(slot));
    }

    private static List<Supplier<EnergyLedger>> everyScene() {
        return List.of(Scenes::open, Scenes::running, Scenes::full, Scenes::settled);
    }

    /** "share is not 0 to 100, or rank is not 0 to 99" and its like, on ledgers in every state. */
    private static void settings() {
        for (Supplier<EnergyLedger> scene : everyScene()) {
            Check.bounds("setMember, share", Check.ARGUMENT, scene, 0, 100, (x, share) -> x.setMember(1, share, 5));
            Check.bounds("setMember, rank", Check.ARGUMENT, scene, 0, 99, (x, rank) -> x.setMember(1, 5, rank));
            Check.bounds("setRule", Check.ARGUMENT, scene, 0, 3, (x, rule) -> x.setRule(rule));
            Check.bounds("setPrices, buy", Check.ARGUMENT, scene, 0, 100, (x, price) -> x.setPrices(price, 5, 5));
            Check.bounds("setPrices, sell", Check.ARGUMENT, scene, 0, 100, (x, price) -> x.setPrices(5, price, 5));
            Check.bounds("setPrices, among", Check.ARGUMENT, scene, 0, 100, (x, price) -> x.setPrices(5, 5, price));
            Check.bounds("setBattery, capacity", Check.ARGUMENT, scene, 0, 20000, (x, n) -> x.setBattery(n, 10, 10));
            Check.bounds("setBattery, power", Check.ARGUMENT, scene, 0, 5000, (x, n) -> x.setBattery(10, n, 10));
            Check.bounds("setBattery, efficiency", Check.ARGUMENT, scene, 1, 100, (x, n) -> x.setBattery(10, 10, n));
        }
        Check.bounds("setRule without members", Check.ARGUMENT, EnergyLedger::new, 0, 3, (x, rule) -> x.setRule(rule));
        Check.allowed("setPrices, all least", Scenes::running, x -> x.setPrices(0, 0, 0));
        Check.allowed("setPrices, all most", Scenes::running, x -> x.setPrices(100, 100, 100));
        Check.allowed("setBattery, all least", Scenes::running, x -> x.setBattery(0, 0, 1));
        Check.allowed("setBattery, all most", Scenes::running, x -> x.setBattery(20000, 5000, 100));
        Check.allowed("setMember, all least", Scenes::running, x -> x.setMember(0, 0, 0));
        Check.allowed("setMember, all most", Scenes::running, x -> x.setMember(0, 100, 99));
    }

    /** "generated or used is not 0 to 5000" */
    private static void readings() {
        for (int slot = 3; slot <= LAST_SLOT; slot += 44) {
            int open = slot;
            Check.bounds("meter, generated", Check.ARGUMENT, Scenes::running, 0, 5000, (x, n) -> x.meter(1, open, n, 5));
            Check.bounds("meter, used", Check.ARGUMENT, Scenes::running, 0, 5000, (x, n) -> x.meter(1, open, 5, n));
        }
        for (int slot = 1; slot <= 2; slot++) {
            int closed = slot;
            Check.bounds("correct, generated", Check.ARGUMENT, Scenes::running, 0, 5000,
                    (x, n) -> x.correct(1, closed, n, 5));
            Check.bounds("correct, used", Check.ARGUMENT, Scenes::running, 0, 5000,
                    (x, n) -> x.correct(1, closed, 5, n));
        }
        Check.allowed("meter, both most", Scenes::running, x -> x.meter(2, 3, 5000, 5000));
        Check.allowed("correct, both most", Scenes::running, x -> x.correct(2, 2, 5000, 5000));
        Check.allowed("meter, both least", Scenes::running, x -> x.meter(2, 3, 0, 0));
        Check.allowed("correct, both least", Scenes::running, x -> x.correct(2, 2, 0, 0));
    }

    private static void money() {
        for (Supplier<EnergyLedger> scene : everyScene()) {
            Check.bounds("common", Check.INDEX, scene, 0, 2, (x, which) -> x.common(which));
            Check.bounds("settle", Check.ARGUMENT, scene, 0, 10000, (x, fee) -> x.settle(fee));
            Check.bounds("pay, 1 and more", Check.ARGUMENT, scene, 1, 1000000, (x, amount) -> x.pay(1, amount));
            Check.bounds("pay, -1 and less", Check.ARGUMENT, scene, -1000000, -1, (x, amount) -> x.pay(1, amount));
            Check.refused("late(-1)", Check.ARGUMENT, scene, x -> x.late(-1));
            Check.refused("late of the least", Check.ARGUMENT, scene, x -> x.late(Integer.MIN_VALUE));
            Check.allowed("late(0)", scene, x -> x.late(0));
            Check.allowed("late of the most", scene, x -> x.late(Integer.MAX_VALUE));
        }
        Check.bounds("common without members", Check.INDEX, EnergyLedger::new, 0, 2, (x, which) -> x.common(which));
        Check.bounds("settle without members", Check.ARGUMENT, EnergyLedger::new, 0, 10000, (x, fee) -> x.settle(fee));
        Check.refused("late without members", Check.ARGUMENT, EnergyLedger::new, x -> x.late(-1));
    }

    private static void others() {
        for (Supplier<EnergyLedger> scene : everyScene()) {
            Check.bounds("flow, what", Check.INDEX, scene, 0, 7, (x, what) -> x.flow(0, 1, what));
            Check.bounds("flow of the last slot, what", Check.INDEX, scene, 0, 7, (x, what) -> x.flow(LAST_SLOT, 1, what));
        }
        Check.bounds("would, rule", Check.ARGUMENT, Scenes::open, 0, 3, (x, rule) -> x.would(1, rule));
        Check.bounds("would, rule", Check.ARGUMENT, Scenes::running, 0, 3, (x, rule) -> x.would(1, rule));
        Check.bounds("would of the last slot, rule", Check.ARGUMENT, () -> Scenes.closed(47), 0, 3,
                (x, rule) -> x.would(1, rule));
    }

    /** meter: "if the slot is closed"; close, would and bestRule: "if all slots are closed". */
    private static void slotsThatAreOpen() {
        for (int closed = 0; closed <= 48; closed++) {
            int count = closed;
            Supplier<EnergyLedger> scene = () -> Scenes.closed(count);
            if (closed > 0) {
                Check.refused("meter of slot 0", Check.STATE, scene, x -> x.meter(0, 0, 1, 1));
                Check.refused("meter of the last closed slot", Check.STATE, scene, x -> x.meter(0, count - 1, 1, 1));
                Check.refused("addMember", Check.STATE, scene, x -> x.addMember());
            }
            if (closed < 48) {
                Check.allowed("meter of the present slot", scene, x -> x.meter(0, count, 1, 1));
                Check.allowed("meter of slot 47", scene, x -> x.meter(0, LAST_SLOT, 1, 1));
                Check.allowed("close", scene, x -> x.close());
                Check.allowed("would", scene, x -> x.would(0, 0));
                Check.allowed("bestRule", scene, x -> x.bestRule(0));
            }
        }
        Check.refused("close when all are closed", Check.STATE, Scenes::full, x -> x.close());
        Check.refused("close when all are settled", Check.STATE, Scenes::settled, x -> x.close());
        Check.refused("close without members", Check.STATE, EnergyLedger::new, x -> x.close());
        Check.refused("would when all are closed", Check.STATE, Scenes::full, x -> x.would(1, 3));
        Check.refused("bestRule when all are closed", Check.STATE, Scenes::full, x -> x.bestRule(1));
        Check.allowed("the sixth member", () -> Scenes.withMembers(5), x -> x.addMember());
        Check.refused("the seventh member", Check.STATE, () -> Scenes.withMembers(6), x -> x.addMember());
        Check.refused("the seventh member, one slot closed", Check.STATE, () -> Scenes.crowd(6), x -> x.addMember());
    }

    /** correct: "if the slot is not closed, or it is settled". */
    private static void slotsThatAreClosed() {
        int[][] settledAndClosed = {{0, 0}, {0, 1}, {1, 1}, {0, 5}, {1, 5}, {4, 5}, {5, 5}, {0, 48}, {47, 48}, {48, 48}};
        for (int[] both : settledAndClosed) {
            Supplier<EnergyLedger> scene = () -> settledAndClosed(both[0], both[1]);
            for (int number = 0; number <= LAST_SLOT; number++) {
                int slot = number;
                String what = "correct of slot " + slot + ", " + both[0] + " settled, " + both[1] + " closed";
                if (slot >= both[0] && slot < both[1]) {
                    Check.allowed(what, scene, x -> x.correct(0, slot, 1, 1));
                } else {
                    Check.refused(what, Check.STATE, scene, x -> x.correct(0, slot, 1, 1));
                }
            }
        }
    }

    private static EnergyLedger settledAndClosed(int settled, int closed) {
        EnergyLedger x = Scenes.closed(settled);
        x.settle(3);
        for (int slot = settled; slot < closed; slot++) {
            x.close();
        }
        return x;
    }
}
