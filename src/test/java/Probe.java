import java.util.function.LongSupplier;

/**
 * All that later calls can tell of a desk, as a text: what can be asked, and what only shows when
 * something is booked, days pass or settings are changed. It uses the desk up, in some 300 calls, so
 * that desk and probe together stay within the 512 calls of the document.
 */
final class Probe {
    private static final int ACCOUNTS = 10;
    private static final int LINES = 6;
    private static final int FLOWS = 20;

    private final CashPools desk;
    private final StringBuilder text = new StringBuilder();

    private Probe(CashPools desk) {
        this.desk = desk;
    }

    static String of(CashPools desk) {
        Probe probe = new Probe(desk);
        probe.positions();
        probe.outlook();
        probe.rulesAndTargets();
        probe.days();
        probe.settings();
        probe.nextNumbers();
        return probe.text.toString();
    }

    private void add(LongSupplier call) {
        try {
            text.append(call.getAsLong());
        } catch (RuntimeException thrown) {
            text.append(thrown.getClass().getSimpleName());
        }
        text.append(' ');
    }

    private void positions() {
        add(desk::today);
        add(desk::accounts);
        for (int i = 0; i < 4; i++) {
            int bank = i;
            add(() -> desk.exposure(bank));
        }
        for (int i = 0; i < Math.min(desk.accounts() + 1, ACCOUNTS); i++) {
            int account = i;
            add(() -> desk.poolOf(account));
            add(() -> desk.balance(account));
            add(() -> desk.total(account));
            add(() -> desk.interestOf(account));
            add(() -> desk.poolInterest(account));
        }
        lines();
        for (int i = 0; i <= FLOWS; i++) {
            int flow = i;
            add(() -> desk.timesLeft(flow));
        }
    }

    private void lines() {
        for (int i = 0; i <= LINES; i++) {
            int line = i;
            add(() -> desk.drawn(line));
            add(() -> desk.costOf(line));
        }
    }

    private void outlook() {
        add(() -> desk.settlementDay(0));
        add(() -> desk.settlementDay(desk.today()));
        add(() -> desk.settlementDay(450));
        add(() -> desk.addHoliday(5));
        for (int i = 0; i < desk.accounts(); i++) {
            int account = i;
            add(() -> desk.afterSweep(account));
            add(() -> desk.afterSweepByMoves(account));
            add(() -> desk.scheduled(account, desk.today(), 450));
            add(() -> desk.forecast(account, 1));
            add(() -> desk.forecast(account, 20));
            add(() -> desk.forecast(account, 60));
            add(() -> desk.daysToShort(account, 60));
        }
    }

    /** A target shows when an account holds far more than it, or far less. */
    private void rulesAndTargets() {
        for (int i = 0; i < desk.accounts(); i++) {
            int account = i;
            desk.book(account, 900000);
            add(() -> desk.afterSweep(account));
            desk.book(account, -900000);
            desk.book(account, -900000);
            add(() -> desk.afterSweep(account));
            desk.book(account, 900000);
        }
    }

    private void days() {
        add(() -> desk.book(0, -800000));
        add(() -> desk.passDays(27));
        for (int i = 0; i < desk.accounts(); i++) {
            int account = i;
            add(() -> desk.balance(account));
        }
        lines();
    }

    private void settings() {
        for (int i = 0; i < desk.accounts(); i++) {
            int account = i;
            add(() -> desk.setRule(account, 0, 0));
            add(() -> desk.setFloor(account, 0));
        }
        for (int i = 0; i < 4; i++) {
            int bank = i;
            add(() -> desk.setBankLimit(bank, -1));
        }
    }

    private void nextNumbers() {
        add(() -> desk.schedule(0, 1, 450, 1, 1));
        add(() -> desk.addLine(0, 1, 0));
        add(() -> desk.addPool(0, 0, 0));
    }
}
