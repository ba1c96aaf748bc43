/**
 * All that can be seen of a ledger, in several views, each of which is for an object of its own: what it tells
 * now, all readings, what it does with the slots to come, and how it closes anew what is closed. A view takes
 * fewer than 400 calls, so that with its scene an object stays below its 512.
 */
final class Trace {
    static final int VIEWS = 5;
    private static final int SLOTS = 48;

    private Trace() {
    }

    static String of(EnergyLedger x, int view) {
        StringBuilder out = new StringBuilder();
        switch (view) {
            case 0:
                told(out, x);
                break;
            case 1:
                readings(out, x, false);
                break;
            case 2:
                readings(out, x, true);
                break;
            case 3:
                future(out, x);
                break;
            default:
                past(out, x);
                break;
        }
        return out.toString();
    }

    private static void add(StringBuilder out, Object answer) {
        out.append(answer).append(' ');
    }

    private static void sums(StringBuilder out, EnergyLedger x) {
        add(out, x.members());
        add(out, x.present());
        add(out, x.content());
        add(out, x.corrections());
        add(out, x.late(0));
        add(out, x.independence());
        for (int which = 0; which < 3; which++) {
            add(out, x.common(which));
        }
        add(out, x.digest());
        out.append('\n');
    }

    private static void told(StringBuilder out, EnergyLedger x) {
        sums(out, x);
        for (int slot = 0; slot < SLOTS; slot++) {
            add(out, x.contentAt(slot));
        }
        int members = x.members();
        int present = x.present();
        for (int m = 0; m < members; m++) {
            add(out, x.account(m, false));
            add(out, x.account(m, true));
            for (int what = 0; what < 8; what++) {
                add(out, x.flow(Math.min(present, SLOTS - 1), m, what));
            }
            for (int rule = 0; rule < 4 && present < SLOTS; rule++) {
                add(out, x.would(m, rule));
            }
        }
        // a setting answers what was there before it; what is set here is for this view alone
        add(out, x.setRule(0));
        add(out, x.setPrices(0, 0, 0));
        add(out, x.setBattery(0, 0, 1));
        for (int m = 0; m < members; m++) {
            add(out, x.setMember(m, 0, 0));
        }
    }

    private static void readings(StringBuilder out, EnergyLedger x, boolean isUsed) {
        int members = x.members();
        for (int slot = 0; slot < SLOTS; slot++) {
            for (int m = 0; m < members; m++) {
                add(out, x.reading(m, slot, isUsed));
            }
        }
    }

    /** The readings that are there, then much surplus, then much need, then some of both. */
    private static void future(StringBuilder out, EnergyLedger x) {
        add(out, Check.thrown(x, y -> y.addMember()));
        int members = x.members();
        int first = x.present();
        for (int more = 0; more < 4 && members > 0 && first + more < SLOTS; more++) {
            for (int m = 0; m < members && more > 0; m++) {
                int much = 5000 - 700 * m;
                boolean isGiver = more == 1 || more == 3 && m == 0;
                x.meter(m, first + more, isGiver ? much : 0, isGiver ? 0 : much);
            }
            add(out, x.close());
            sums(out, x);
        }
        add(out, x.settle(1));
        sums(out, x);
    }

    private static void past(StringBuilder out, EnergyLedger x) {
        int slots = Math.min(SLOTS, x.present() + 1);
        int members = Math.min(2, x.members());
        for (int slot = 0; slot < slots; slot++) {
            for (int m = 0; m < members; m++) {
                int member = m;
                int number = slot;
                add(out, Check.thrown(x, y -> y.correct(member, number, 3000 + member, 100 * number)));
                add(out, x.digest());
            }
        }
        add(out, x.content());
    }
}
