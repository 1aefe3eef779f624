import java.lang.reflect.InvocationTargetException;

/**
 * Runs a test's main method, and ends it as failed, with 2, when it gives no sign for a minute or takes
 * five minutes in all: a call that does not end is a fault too. All tests together take some 15 seconds.
 */
public final class Watch {
    private static final int SECONDS_WITHOUT_A_SIGN = 60;
    private static final int SECONDS_IN_ALL = 300;

    private static volatile String lastSign = "";
    private static volatile int silent;

    private Watch() {
    }

    /** What the test does next. */
    static void sign(String what) {
        lastSign = what;
        silent = 0;
    }

    public static void main(String[] args) throws ReflectiveOperationException {
        Thread test = Thread.currentThread();
        Thread watch = new Thread(() -> endWhenSilent(test));
        watch.setDaemon(true);
        watch.start();
        try {
            Class.forName(args[0]).getMethod("main", String[].class).invoke(null, (Object) new String[0]);
        } catch (InvocationTargetException thrown) {
            thrown.getCause().printStackTrace();
            System.exit(1);
        }
    }

    private static void endWhenSilent(Thread test) {
        for (int all = 0; all < SECONDS_IN_ALL && silent < SECONDS_WITHOUT_A_SIGN; all++) {
            silent++;
            sleepASecond();
        }
        System.out.println("does not end: " + lastSign);
        for (StackTraceElement call : test.getStackTrace()) {
            System.out.println("    in " + call);
        }
        Runtime.getRuntime().halt(2);
    }

    private static void sleepASecond() {
        try {
            Thread.sleep(1000);
        } catch (InterruptedException ended) {
            Thread.currentThread().interrupt();
        }
    }
}
