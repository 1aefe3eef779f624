import java.util.function.Supplier;

/** Counts what is not as due, and tells it. */
final class Check {
    static final Class<IndexOutOfBoundsException> INDEX = IndexOutOfBoundsException.class;
    static final Class<IllegalArgumentException> ARGUMENT = IllegalArgumentException.class;
    static final Class<IllegalStateException> STATE = IllegalStateException.class;

    /** A call of the face. */
    interface Call {
        long on(CashPools desk);
    }

    /** A call of the face with one argument that is tried. */
    interface CallWith {
        long on(CashPools desk, int argument);
    }

    /** How many faults are told in words. */
    private static final int TOLD = 20;

    private final String test;
    private String about = "";
    private int wrong;

    Check(String test) {
        this.test = test;
    }

    /** What the next checks belong to. */
    void about(String words) {
        about = words + ": ";
        Watch.sign(test + ": " + about);
    }

    void same(String what, long got, long due) {
        if (got != due) {
            tell(what + " answered " + got + ", due is " + due);
        }
    }

    void balances(String when, CashPools desk, long... due) {
        for (int account = 0; account < due.length; account++) {
            same(when + ": balance(" + account + ")", desk.balance(account), due[account]);
        }
    }

    void drawn(String when, CashPools desk, long... due) {
        for (int line = 0; line < due.length; line++) {
            same(when + ": drawn(" + line + ")", desk.drawn(line), due[line]);
        }
    }

    /** The balances behind a sweep, told in both ways. */
    void swept(String when, CashPools desk, long... due) {
        for (int account = 0; account < due.length; account++) {
            same(when + ": afterSweep(" + account + ")", desk.afterSweep(account), due[account]);
            same(when + ": afterSweepByMoves(" + account + ")", desk.afterSweepByMoves(account), due[account]);
        }
    }

    void interest(String when, CashPools desk, int pool, long duePool, long... due) {
        same(when + ": poolInterest(" + pool + ")", desk.poolInterest(pool), duePool);
        for (int account = 0; account < due.length; account++) {
            same(when + ": interestOf(" + account + ")", desk.interestOf(account), due[account]);
        }
    }

    /** The call throws exactly this kind; and nothing has changed, as a desk without that call shows. */
    void refused(String what, Supplier<CashPools> desks, Class<? extends RuntimeException> due, Call call) {
        CashPools desk = desks.get();
        try {
            tell(what + " answered " + call.on(desk) + ", due is " + due.getSimpleName());
        } catch (RuntimeException thrown) {
            if (thrown.getClass() != due || !thrownByProgram(thrown)) {
                tell(what + " threw " + thrown + ", due is " + due.getSimpleName());
            }
        }
        if (!Probe.of(desk).equals(Probe.of(desks.get()))) {
            tell(what + " threw, and changed something");
        }
    }

    /** The least and the greatest are allowed; the ones just outside and the farthest are refused. */
    void range(int least, int greatest, Supplier<CashPools> desks, CallWith call) {
        allowed(desks, call, least, greatest);
        int[] outside = {least - 1, greatest + 1, Integer.MIN_VALUE, Integer.MAX_VALUE};
        for (int argument : outside) {
            refused("with " + argument, desks, ARGUMENT, x -> call.on(x, argument));
        }
    }

    /** The first and the last of so many are there; none below 0, and none beyond them. */
    void numbers(int count, Supplier<CashPools> desks, CallWith call) {
        if (count > 0) {
            allowed(desks, call, 0, count - 1);
        }
        int[] none = {-1, count, Integer.MIN_VALUE, Integer.MAX_VALUE};
        for (int argument : none) {
            refused("with number " + argument, desks, INDEX, x -> call.on(x, argument));
        }
    }

    private void allowed(Supplier<CashPools> desks, CallWith call, int... arguments) {
        for (int argument : arguments) {
            try {
                call.on(desks.get(), argument);
            } catch (RuntimeException thrown) {
                tell("with " + argument + " threw " + thrown);
            }
        }
    }

    /** Thrown by the program's own throw, not by the machine or the library. */
    static boolean thrownByProgram(RuntimeException thrown) {
        StackTraceElement[] trace = thrown.getStackTrace();
        return trace.length > 0 && trace[0].getClassName().startsWith("CashPools");
    }

    void tell(String fault) {
        wrong++;
        if (wrong <= TOLD) {
            System.out.println(test + ": " + about + fault);
        }
    }

    int wrong() {
        return wrong;
    }

    void finish() {
        System.out.println(test + ": " + (wrong == 0 ? "as due" : wrong + " faults"));
        if (wrong != 0) {
            System.exit(1);
        }
    }
}
