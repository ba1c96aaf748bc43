/** Runs of all calls, with numbers of every size, against the model: each answer and each exception. */
public final class ModelTest {
    private static final int RUNS = 400;
    /** Two more follow at the end of a run: 512 in all. */
    private static final int CALLS = 510;

    private long seed;

    private interface Answer {
        double get();
    }

    private ModelTest(long seed) {
        this.seed = seed;
    }

    public static void main(String[] args) {
        for (int run = 0; run < RUNS; run++) {
            new ModelTest(run * 7919L + 1).run(run);
        }
        Check.end("ModelTest");
    }

    /** The same numbers in every run of the test: no random source. */
    private int next(int bound) {
        seed = seed * 6364136223846793005L + 1442695040888963407L;
        return (int) ((seed >>> 33) % bound);
    }

    /** Mostly within least and most, sometimes at the edges, seldom beside them. */
    private int number(int least, int most) {
        switch (next(40)) {
            case 0:
                return least - 1;
            case 1:
                return most + 1;
            case 2:
                return least;
            case 3:
                return most;
            default:
                return least + next(most - least + 1);
        }
    }

    private int amount(int most) {
        switch (next(5)) {
            case 0:
                return number(0, most);
            case 1:
                return next(5);
            default:
                return next(most < 100 ? most : 100);
        }
    }

    private int reading() {
        return next(3) == 0 ? 0 : amount(5000);
    }

    private void run(int run) {
        EnergyLedger x = new EnergyLedger();
        Model y = new Model();
        int first = 1 + next(6);
        for (int k = 0; k < first; k++) {
            same("addMember", () -> x.addMember(), () -> y.addMember());
        }
        for (int call = first; call < CALLS; call++) {
            step(x, y);
        }
        same("run " + run + ": independence", () -> x.independence(), () -> y.independence());
        Check.equal("run " + run + ": digest", x.digest(), y.digest());
    }

    private void step(EnergyLedger x, Model y) {
        int kind = next(100);
        if (kind < 45) {
            energy(kind, x, y);
        } else if (kind < 60) {
            settings(kind, x, y);
        } else {
            questions(kind, x, y);
        }
    }

    private void energy(int kind, EnergyLedger x, Model y) {
        int member = number(0, Math.max(0, y.members - 1));
        int ahead = Math.min(47, y.closed.size() + next(2));
        int behind = Math.max(0, y.closed.size() - 1 - next(6));
        int generated = reading();
        int used = reading();
        if (kind < 30) {
            int slot = next(30) == 0 ? number(0, 47) : ahead;
            same("meter", () -> x.meter(member, slot, generated, used) ? 1 : 0, () -> y.meter(member, slot, generated, used));
        } else if (kind < 38) {
            same("close", () -> x.close(), () -> y.close());
        } else {
            int slot = next(8) == 0 ? number(0, 47) : behind;
            same("correct", () -> x.correct(member, slot, generated, used), () -> y.correct(member, slot, generated, used));
        }
    }

    private void settings(int kind, EnergyLedger x, Model y) {
        int member = number(0, Math.max(0, y.members - 1));
        int a = kind < 50 ? amount(100) : amount(20000);
        int b = kind < 48 ? number(0, 99) : amount(kind < 50 ? 100 : 5000);
        int c = next(3) == 0 ? 100 : number(1, 100);
        int rule = number(0, 3);
        int fee = amount(10000);
        if (kind < 48) {
            same("setMember", () -> x.setMember(member, a, b), () -> y.setMember(member, a, b));
        } else if (kind < 50) {
            same("setPrices", () -> x.setPrices(a, b, c), () -> y.setPrices(a, b, c));
        } else if (kind < 54) {
            same("setBattery", () -> x.setBattery(a, b, c), () -> y.setBattery(a, b, c));
        } else if (kind < 57) {
            same("setRule", () -> x.setRule(rule), () -> y.setRule(rule));
        } else if (kind < 58 && next(4) == 0) {
            same("settle", () -> x.settle(fee), () -> y.settle(fee));
        } else if (kind < 59) {
            int amount = number(-1000000, 1000000);
            same("pay", () -> x.pay(member, amount), () -> y.pay(member, amount));
        } else {
            same("addMember", () -> x.addMember(), () -> y.addMember());
        }
    }

    private void questions(int kind, EnergyLedger x, Model y) {
        int member = number(0, Math.max(0, y.members - 1));
        int slot = next(6) == 0 ? number(0, 47) : Math.max(0, y.closed.size() - next(4));
        int what = number(0, 7);
        int rule = number(0, 3);
        int which = number(0, 2);
        int limit = amount(1000000);
        boolean is = next(2) == 0;
        if (kind < 70) {
            same("flow", () -> x.flow(slot, member, what), () -> y.flow(slot, member, what));
        } else if (kind < 74) {
            same("contentAt", () -> x.contentAt(slot), () -> y.contentAt(slot));
        } else if (kind < 80) {
            same("would", () -> x.would(member, rule), () -> y.would(member, rule));
        } else if (kind < 83) {
            same("bestRule", () -> x.bestRule(member), () -> y.bestRule(member));
        } else if (kind < 88) {
            same("account", () -> x.account(member, is), () -> y.account(member, is));
        } else if (kind < 91) {
            same("common", () -> x.common(which), () -> y.common(which));
        } else if (kind < 93) {
            same("reading", () -> x.reading(member, slot, is), () -> y.reading(member, slot, is));
        } else if (kind < 95) {
            same("late", () -> x.late(limit), () -> y.late(limit));
        } else if (kind < 96) {
            same("present", () -> x.present(), () -> y.closed.size());
        } else if (kind < 97) {
            same("content", () -> x.content(), () -> y.content);
        } else if (kind < 98) {
            same("members", () -> x.members(), () -> y.members);
        } else if (kind < 99) {
            same("corrections", () -> x.corrections(), () -> y.corrections);
        } else {
            Check.equal("digest", x.digest(), y.digest());
        }
    }

    private static void same(String call, Answer got, Answer due) {
        Check.equal(call, answer(got), answer(due));
    }

    private static String answer(Answer answer) {
        try {
            return String.valueOf(answer.get());
        } catch (RuntimeException e) {
            return e.getClass().getName();
        }
    }
}
