import java.util.function.LongSupplier;

/** Counts what is not as due, and tells it. */
final class Check {
    static final Class<IndexOutOfBoundsException> INDEX = IndexOutOfBoundsException.class;
    static final Class<IllegalArgumentException> ARGUMENT = IllegalArgumentException.class;
    static final Class<IllegalStateException> STATE = IllegalStateException.class;

    private final String test;
    private int wrong;

    Check(String test) {
        this.test = test;
    }

    void same(String what, long got, long due) {
        if (got != due) {
            tell(what + " answered " + got + ", due is " + due);
        }
    }

    /** The call throws exactly this kind, and nothing that can be asked has changed. */
    void refused(CashPools desk, String what, Class<? extends RuntimeException> due, LongSupplier call) {
        String before = Snapshot.of(desk);
        try {
            tell(what + " answered " + call.getAsLong() + ", due is " + due.getSimpleName());
        } catch (RuntimeException thrown) {
            if (thrown.getClass() != due || !thrownByProgram(thrown)) {
                tell(what + " threw " + thrown + ", due is " + due.getSimpleName());
            }
        }
        if (!before.equals(Snapshot.of(desk))) {
            tell(what + " threw, and changed something");
        }
    }

    /** Thrown by the program's own throw, not by the machine or the library. */
    static boolean thrownByProgram(RuntimeException thrown) {
        StackTraceElement[] trace = thrown.getStackTrace();
        return trace.length > 0 && trace[0].getClassName().startsWith("CashPools");
    }

    void balances(String when, CashPools desk, long... due) {
        for (int account = 0; account < due.length; account++) {
            same(when + ": balance(" + account + ")", desk.balance(account), due[account]);
        }
    }

    void swept(String when, CashPools desk, long... due) {
        for (int account = 0; account < due.length; account++) {
            same(when + ": afterSweep(" + account + ")", desk.afterSweep(account), due[account]);
            same(when + ": afterSweepByMoves(" + account + ")", desk.afterSweepByMoves(account), due[account]);
        }
    }

    void tell(String fault) {
        wrong++;
        if (wrong <= 20) {
            System.out.println(test + ": " + fault);
        }
    }

    void finish() {
        System.out.println(test + ": " + (wrong == 0 ? "as due" : wrong + " faults"));
        if (wrong != 0) {
            System.exit(1);
        }
    }
}
