import java.util.Arrays;
import java.util.Random;

/** Long runs of all calls, with good and wrong arguments, against the slow form of the document. */
public final class RandomRunsTest {
    private static final Check CHECK = new Check("RandomRunsTest");
    private static final int RUNS = Integer.getInteger("runs", 400);
    private static final int FIRST = Integer.getInteger("first", 0);
    private static final int CALLS = 512;
    private static final int ENOUGH = 20;

    private static final String[] CHANGES = {
        "addPool", "addAccount", "addAccount", "setRule", "setRule", "setRule", "setFloor", "addLine",
        "setBankLimit", "setBankLimit", "addHoliday", "passDays", "passDays", "passDays", "book", "book",
        "book", "schedule", "schedule", "cancel",
    };
    private static final String[] QUESTIONS = {
        "today", "settlementDay", "timesLeft", "scheduled", "accounts", "poolOf", "balance", "balance",
        "total", "exposure", "drawn", "costOf", "interestOf", "poolInterest", "afterSweep", "afterSweep",
        "afterSweepByMoves", "forecast", "daysToShort",
    };

    private final Random random;
    private final CashPools desk = new CashPools();
    private final Reference reference = new Reference();
    private final int scale;
    private final int longestPass;

    private RandomRunsTest(long seed) {
        random = new Random(seed);
        scale = new int[] {20, 1000, 60000, 1000000}[random.nextInt(4)];
        longestPass = random.nextBoolean() ? 8 : 60;
    }

    public static void main(String[] args) {
        for (int run = 0; run < RUNS && CHECK.wrong() < ENOUGH; run++) {
            CHECK.about("run " + (FIRST + run));
            new RandomRunsTest(FIRST + run).run();
        }
        CHECK.finish();
    }

    private void run() {
        for (int call = 0; call < CALLS; call++) {
            String[] names = call < 14 || random.nextInt(3) == 0 ? CHANGES : QUESTIONS;
            String name = call == 0 ? "addPool" : names[random.nextInt(names.length)];
            int[] arguments = arguments(name);
            String due = reference.answer(name, arguments);
            String got = answer(name, arguments);
            if (!due.equals(got)) {
                CHECK.tell("call " + call + " " + name + Arrays.toString(arguments)
                        + " answered " + got + ", due is " + due);
                return;
            }
        }
    }

    private String answer(String call, int[] arguments) {
        try {
            return Long.toString(call(call, arguments));
        } catch (RuntimeException thrown) {
            String name = thrown.getClass().getSimpleName();
            return Check.thrownByProgram(thrown) ? name : name + " by itself";
        }
    }

    private long call(String name, int[] a) {
        switch (name) {
            case "addPool": return desk.addPool(a[0], a[1], a[2]);
            case "addAccount": return desk.addAccount(a[0], a[1]);
            case "setRule": return desk.setRule(a[0], a[1], a[2]);
            case "setFloor": return desk.setFloor(a[0], a[1]);
            case "addLine": return desk.addLine(a[0], a[1], a[2]);
            case "setBankLimit": return desk.setBankLimit(a[0], a[1]);
            case "today": return desk.today();
            case "addHoliday": return desk.addHoliday(a[0]);
            case "settlementDay": return desk.settlementDay(a[0]);
            case "passDays": return desk.passDays(a[0]);
            case "book": return desk.book(a[0], a[1]);
            case "schedule": return desk.schedule(a[0], a[1], a[2], a[3], a[4]);
            case "cancel": return desk.cancel(a[0]);
            case "timesLeft": return desk.timesLeft(a[0]);
            case "scheduled": return desk.scheduled(a[0], a[1], a[2]);
            case "accounts": return desk.accounts();
            case "poolOf": return desk.poolOf(a[0]);
            case "balance": return desk.balance(a[0]);
            case "total": return desk.total(a[0]);
            case "exposure": return desk.exposure(a[0]);
            case "drawn": return desk.drawn(a[0]);
            case "costOf": return desk.costOf(a[0]);
            case "interestOf": return desk.interestOf(a[0]);
            case "poolInterest": return desk.poolInterest(a[0]);
            case "afterSweep": return desk.afterSweep(a[0]);
            case "afterSweepByMoves": return desk.afterSweepByMoves(a[0]);
            case "forecast": return desk.forecast(a[0], a[1]);
            case "daysToShort": return desk.daysToShort(a[0], a[1]);
            default: throw new AssertionError(name);
        }
    }

    private int[] arguments(String name) {
        int today = desk.today();
        switch (name) {
            case "today":
            case "accounts":
                return new int[0];
            case "addPool":
                return new int[] {within(0, 3), rate(), rate()};
            case "addAccount":
                return new int[] {account(), within(0, 3)};
            case "setRule":
                return new int[] {account(), within(0, 3), amount()};
            case "setFloor":
                return new int[] {account(), amount()};
            case "addLine":
                return new int[] {account(), 1 + within(0, 3 * scale), rate()};
            case "setBankLimit":
                return new int[] {within(0, 3), random.nextInt(4) == 0 ? -1 : within(0, 4 * scale)};
            case "addHoliday":
            case "settlementDay":
                return new int[] {random.nextBoolean() ? within(0, 450) : Math.min(450, today + within(0, 9))};
            case "passDays":
                return new int[] {within(1, longestPass)};
            case "book":
                return new int[] {account(), amount()};
            case "schedule":
                return new int[] {account(), amount(), Math.min(450, today + within(0, 30)),
                    within(1, random.nextBoolean() ? 9 : 100), within(1, 30)};
            case "cancel":
            case "timesLeft":
                return new int[] {within(0, 19)};
            case "scheduled":
                int from = Math.min(450, today + within(0, 20));
                return new int[] {account(), from, Math.min(450, from + within(0, 60))};
            case "exposure":
                return new int[] {within(0, 3)};
            case "drawn":
            case "costOf":
                return new int[] {within(0, 5)};
            case "forecast":
            case "daysToShort":
                return new int[] {account(), within(1, 60)};
            default:
                return new int[] {account()};
        }
    }

    private int account() {
        return within(0, Math.max(0, desk.accounts() - 1));
    }

    private int rate() {
        return random.nextBoolean() ? within(0, 1000) : 100 * within(0, 3);
    }

    private int amount() {
        return random.nextInt(3) == 0 ? 10 * within(-scale / 10, scale / 10) : within(-scale, scale);
    }

    /** Often the least or the greatest; now and then just outside, or far outside. */
    private int within(int low, int high) {
        int kind = random.nextInt(150);
        if (kind < 3) {
            return kind == 0 ? low - 1 : kind == 1 ? high + 1 : random.nextInt();
        }
        return kind < 9 ? low : kind < 15 ? high : low + random.nextInt(high - low + 1);
    }
}
