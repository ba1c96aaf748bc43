import java.util.List;
import java.util.function.Supplier;

/**
 * "If several exceptions apply, the one that is named first is thrown": for each call that names more than one,
 * each two and all of them at once. "A method that throws an exception changes nothing" holds for each, too.
 */
public final class OrderTest {
    private static final int[] NO_MEMBER = {-1, 3, 6, Integer.MAX_VALUE, Integer.MIN_VALUE};
    private static final int[] NO_SLOT = {-1, 48, Integer.MAX_VALUE, Integer.MIN_VALUE};
    private static final int[][] NO_READINGS = {{-1, 1}, {5001, 1}, {1, -1}, {1, 5001}, {-1, -1}, {5001, 5001}};

    public static void main(String[] args) {
        setMember();
        meter();
        correct();
        would();
        bestRule();
        pay();
        severalOfTheSame();
        withoutMembers();
        questionsChangeNothing();
        Check.end("OrderTest");
    }

    /** IndexOutOfBounds, then IllegalArgument. */
    private static void setMember() {
        int[][] wrong = {{-1, 1}, {101, 1}, {1, -1}, {1, 100}, {-1, -1}, {101, 100}};
        for (int[] w : wrong) {
            for (int member : NO_MEMBER) {
                Check.refused("setMember, member and values", Check.INDEX, Scenes::running,
                        x -> x.setMember(member, w[0], w[1]));
            }
            Check.refused("setMember, values", Check.ARGUMENT, Scenes::running, x -> x.setMember(0, w[0], w[1]));
        }
    }

    /** IndexOutOfBounds, then IllegalArgument, then IllegalState (slots 0 to 2 are closed, all of them in the full one). */
    private static void meter() {
        for (int member : NO_MEMBER) {
            Check.refused("meter, member and state", Check.INDEX, Scenes::running, x -> x.meter(member, 2, 1, 1));
            Check.refused("meter, member and state", Check.INDEX, Scenes::full, x -> x.meter(member, 47, 1, 1));
        }
        for (int[] w : NO_READINGS) {
            for (int member : NO_MEMBER) {
                Check.refused("meter, member and readings", Check.INDEX, Scenes::running,
                        x -> x.meter(member, 3, w[0], w[1]));
                Check.refused("meter, member, readings and state", Check.INDEX, Scenes::running,
                        x -> x.meter(member, 0, w[0], w[1]));
            }
            for (int slot : NO_SLOT) {
                Check.refused("meter, slot and readings", Check.INDEX, Scenes::running, x -> x.meter(0, slot, w[0], w[1]));
                Check.refused("meter, slot and readings", Check.INDEX, Scenes::full, x -> x.meter(0, slot, w[0], w[1]));
            }
            Check.refused("meter, readings and state", Check.ARGUMENT, Scenes::running, x -> x.meter(0, 0, w[0], w[1]));
            Check.refused("meter, readings and state", Check.ARGUMENT, Scenes::running, x -> x.meter(0, 2, w[0], w[1]));
            Check.refused("meter, readings and state", Check.ARGUMENT, Scenes::full, x -> x.meter(0, 47, w[0], w[1]));
        }
    }

    /** IndexOutOfBounds, then IllegalArgument, then IllegalState: slot 0 is settled, from 3 on none is closed. */
    private static void correct() {
        int[] noState = {0, 3, 47};
        for (int slot : noState) {
            for (int member : NO_MEMBER) {
                Check.refused("correct, member and state", Check.INDEX, Scenes::running, x -> x.correct(member, slot, 1, 1));
            }
            for (int[] w : NO_READINGS) {
                Check.refused("correct, readings and state", Check.ARGUMENT, Scenes::running,
                        x -> x.correct(0, slot, w[0], w[1]));
                Check.refused("correct, member, readings and state", Check.INDEX, Scenes::running,
                        x -> x.correct(3, slot, w[0], w[1]));
                Check.refused("correct, readings and state", Check.ARGUMENT, Scenes::settled,
                        x -> x.correct(0, slot, w[0], w[1]));
            }
        }
        for (int[] w : NO_READINGS) {
            for (int member : NO_MEMBER) {
                Check.refused("correct, member and readings", Check.INDEX, Scenes::running,
                        x -> x.correct(member, 1, w[0], w[1]));
            }
            for (int slot : NO_SLOT) {
                Check.refused("correct, slot and readings", Check.INDEX, Scenes::running,
                        x -> x.correct(0, slot, w[0], w[1]));
            }
        }
    }

    /** IndexOutOfBounds, then IllegalArgument, then IllegalState (all slots of the full one are closed). */
    private static void would() {
        int[] noRule = {-1, 4, Integer.MAX_VALUE, Integer.MIN_VALUE};
        for (int member : NO_MEMBER) {
            for (int rule : noRule) {
                Check.refused("would, member and rule", Check.INDEX, Scenes::running, x -> x.would(member, rule));
                Check.refused("would, member, rule and state", Check.INDEX, Scenes::full, x -> x.would(member, rule));
            }
            Check.refused("would, member and state", Check.INDEX, Scenes::full, x -> x.would(member, 0));
        }
        for (int rule : noRule) {
            Check.refused("would, rule and state", Check.ARGUMENT, Scenes::full, x -> x.would(0, rule));
        }
    }

    /** IndexOutOfBounds, then IllegalState. */
    private static void bestRule() {
        for (int member : NO_MEMBER) {
            Check.refused("bestRule, member and state", Check.INDEX, Scenes::full, x -> x.bestRule(member));
        }
    }

    /** IndexOutOfBounds, then IllegalArgument. */
    private static void pay() {
        int[] noAmount = {0, 1000001, -1000001, Integer.MAX_VALUE, Integer.MIN_VALUE};
        for (int member : NO_MEMBER) {
            for (int amount : noAmount) {
                Check.refused("pay, member and amount", Check.INDEX, Scenes::running, x -> x.pay(member, amount));
            }
        }
    }

    /** Where one exception is named for several things, it comes for all of them at once, too. */
    private static void severalOfTheSame() {
        Check.refused("setPrices, all too small", Check.ARGUMENT, Scenes::running, x -> x.setPrices(-1, -1, -1));
        Check.refused("setPrices, all too large", Check.ARGUMENT, Scenes::running, x -> x.setPrices(101, 101, 101));
        Check.refused("setBattery, all too small", Check.ARGUMENT, Scenes::running, x -> x.setBattery(-1, -1, 0));
        Check.refused("setBattery, all too large", Check.ARGUMENT, Scenes::running, x -> x.setBattery(20001, 5001, 101));
        Check.refused("reading, both", Check.INDEX, Scenes::running, x -> x.reading(3, 48, true));
        Check.refused("flow, all", Check.INDEX, Scenes::running, x -> x.flow(48, 3, 8));
        Check.refused("flow, all", Check.INDEX, Scenes::running, x -> x.flow(-1, -1, -1));
        Check.refused("meter, both", Check.INDEX, Scenes::running, x -> x.meter(-1, 48, 1, 1));
        Check.refused("correct, both", Check.INDEX, Scenes::running, x -> x.correct(3, -1, 1, 1));
    }

    /** Without members each call that names one throws the first exception, whatever else is wrong. */
    private static void withoutMembers() {
        Check.refused("setMember", Check.INDEX, EnergyLedger::new, x -> x.setMember(0, 101, 100));
        Check.refused("meter", Check.INDEX, EnergyLedger::new, x -> x.meter(0, 0, -1, -1));
        Check.refused("correct", Check.INDEX, EnergyLedger::new, x -> x.correct(0, 0, -1, -1));
        Check.refused("would", Check.INDEX, EnergyLedger::new, x -> x.would(0, 4));
        Check.refused("pay", Check.INDEX, EnergyLedger::new, x -> x.pay(0, 0));
    }

    /** What only asks changes nothing, neither where it answers nor where it throws. */
    private static void questionsChangeNothing() {
        List<Supplier<EnergyLedger>> scenes = List.of(EnergyLedger::new, () -> Scenes.withMembers(6), Scenes::open,
                Scenes::running, Scenes::full, Scenes::settled);
        for (Supplier<EnergyLedger> scene : scenes) {
            Check.changesNothing("content", scene, x -> x.content());
            Check.changesNothing("members", scene, x -> x.members());
            Check.changesNothing("reading", scene, x -> x.reading(1, 3, true));
            Check.changesNothing("present", scene, x -> x.present());
            Check.changesNothing("flow", scene, x -> x.flow(1, 1, 7));
            Check.changesNothing("contentAt", scene, x -> x.contentAt(1));
            for (int rule = 0; rule < 4; rule++) {
                int other = rule;
                Check.changesNothing("would", scene, x -> x.would(1, other));
            }
            Check.changesNothing("bestRule", scene, x -> x.bestRule(1));
            Check.changesNothing("account", scene, x -> x.account(1, true));
            Check.changesNothing("common", scene, x -> x.common(1));
            Check.changesNothing("late", scene, x -> x.late(0));
            Check.changesNothing("corrections", scene, x -> x.corrections());
            Check.changesNothing("independence", scene, x -> x.independence());
            Check.changesNothing("digest", scene, x -> x.digest());
        }
    }
}
