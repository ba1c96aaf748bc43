import java.util.function.Consumer;
import java.util.function.Supplier;

/** Counts the answers that are not the due ones, and ends a test's run with exit code 1 if there is one. */
final class Check {
    static final Class<?> INDEX = IndexOutOfBoundsException.class;
    static final Class<?> ARGUMENT = IllegalArgumentException.class;
    static final Class<?> STATE = IllegalStateException.class;

    private static int checks = 0;
    private static int wrong = 0;

    private Check() {
    }

    static void equal(String what, long got, long due) {
        isTrue(what + " answered " + got + ", due is " + due, got == due);
    }

    static void equal(String what, double got, double due) {
        isTrue(what + " answered " + got + ", due is " + due, got == due);
    }

    static void equal(String what, Object got, Object due) {
        isTrue(what + " answered " + got + ", due is " + due, got.equals(due));
    }

    static void isTrue(String what, boolean holds) {
        checks++;
        if (!holds) {
            wrong++;
            System.out.println("wrong: " + what);
        }
    }

    /** A call on a scene has to throw exactly this exception, and the scene goes on as if it had not been called. */
    static void refused(String what, Class<?> due, Supplier<EnergyLedger> scene, Consumer<EnergyLedger> call) {
        EnergyLedger ledger = scene.get();
        Class<?> thrown = thrown(ledger, call);
        isTrue(what + " has to throw " + due + ", it threw " + thrown, due == thrown);
        equal(what + " changes nothing", trace(ledger), trace(scene.get()));
    }

    private static Class<?> thrown(EnergyLedger ledger, Consumer<EnergyLedger> call) {
        try {
            call.accept(ledger);
            return null;
        } catch (RuntimeException e) {
            return e.getClass();
        }
    }

    /** What a ledger tells of itself, and what it then does in two slots more: well below 512 calls. */
    private static String trace(EnergyLedger x) {
        StringBuilder out = new StringBuilder();
        append(out, x);
        int[] slots = {0, 1, 2, 3, 47};
        for (int m = 0; m < x.members(); m++) {
            for (int slot : slots) {
                out.append(x.reading(m, slot, false)).append(' ').append(x.reading(m, slot, true)).append(' ');
            }
        }
        for (int rule = 0; rule < 4 && x.present() < 48; rule++) {
            for (int m = 0; m < x.members(); m++) {
                out.append(x.would(m, rule)).append(' ');
            }
        }
        out.append(thrown(x, y -> y.addMember()));
        for (int more = 0; more < 2 && x.members() > 0 && x.present() < 48; more++) {
            for (int m = 0; m < x.members(); m++) {
                x.meter(m, x.present(), m == more ? 5000 : 0, 200 * m * more);
            }
            x.close();
            append(out, x);
        }
        out.append(x.settle(1));
        append(out, x);
        return out.toString();
    }

    private static void append(StringBuilder out, EnergyLedger x) {
        out.append(x.members()).append(' ').append(x.present()).append(' ').append(x.content()).append(' ')
                .append(x.corrections()).append(' ').append(x.late(0)).append(' ').append(x.independence()).append(' ')
                .append(x.common(0)).append(' ').append(x.common(1)).append(' ').append(x.common(2)).append(' ')
                .append(x.digest()).append('\n');
    }

    static void end(String test) {
        System.out.println(test + ": " + checks + " checks, " + wrong + " wrong");
        if (wrong != 0) {
            System.exit(1);
        }
    }
}
