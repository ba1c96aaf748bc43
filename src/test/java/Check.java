import java.util.function.Consumer;
import java.util.function.ObjIntConsumer;
import java.util.function.Supplier;

/** Counts the answers that are not the due ones, and ends a test's run with exit code 1 if there is one. */
final class Check {
    static final Class<?> INDEX = IndexOutOfBoundsException.class;
    static final Class<?> ARGUMENT = IllegalArgumentException.class;
    static final Class<?> STATE = IllegalStateException.class;

    private static int checks = 0;
    private static int wrong = 0;

    private Check() {
    }

    static void equal(String what, long got, long due) {
        isTrue(what + " answered " + got + ", due is " + due, got == due);
    }

    static void equal(String what, double got, double due) {
        isTrue(what + " answered " + got + ", due is " + due, got == due);
    }

    static void equal(String what, Object got, Object due) {
        isTrue(what + " answered " + got + ", due is " + due, got.equals(due));
    }

    static void isTrue(String what, boolean holds) {
        checks++;
        if (!holds) {
            wrong++;
            System.out.println("wrong: " + what);
        }
    }

    /** A call on a scene has to throw exactly this exception, and the scene goes on as if it had not been called. */
    static void refused(String what, Class<?> due, Supplier<EnergyLedger> scene, Consumer<EnergyLedger> call) {
        Class<?> thrown = thrown(scene.get(), call);
        isTrue(what + " has to throw " + due + ", it threw " + thrown, due == thrown);
        changesNothing(what, scene, call);
    }

    /** A call on a scene must not throw. */
    static void allowed(String what, Supplier<EnergyLedger> scene, Consumer<EnergyLedger> call) {
        Class<?> thrown = thrown(scene.get(), call);
        isTrue(what + " has to be allowed, it threw " + thrown, thrown == null);
    }

    /** From least to most a number is allowed, what is beside them is refused, far away too. */
    static void bounds(String what, Class<?> due, Supplier<EnergyLedger> scene, int least, int most,
            ObjIntConsumer<EnergyLedger> call) {
        int[] inside = {least, least + (most - least) / 2, most};
        for (int number : inside) {
            allowed(what + " of " + number, scene, x -> call.accept(x, number));
        }
        int[] outside = {least - 1, most + 1, Integer.MIN_VALUE, Integer.MAX_VALUE};
        for (int number : outside) {
            refused(what + " of " + number, due, scene, x -> call.accept(x, number));
        }
    }

    /** Whether the call throws or not: a scene goes on as if it had not been called. */
    static void changesNothing(String what, Supplier<EnergyLedger> scene, Consumer<EnergyLedger> call) {
        for (int view = 0; view < Trace.VIEWS; view++) {
            EnergyLedger called = scene.get();
            thrown(called, call);
            equal(what + " changes nothing, view " + view, Trace.of(called, view), Trace.of(scene.get(), view));
        }
    }

    static Class<?> thrown(EnergyLedger ledger, Consumer<EnergyLedger> call) {
        try {
            call.accept(ledger);
            return null;
        } catch (RuntimeException e) {
            return e.getClass();
        }
    }

    static void end(String test) {
        System.out.println(test + ": " + checks + " checks, " + wrong + " wrong");
        if (wrong != 0) {
            System.exit(1);
        }
    }
}
