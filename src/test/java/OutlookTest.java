/** Promises 28 and 29: forecasts and the days until a pool is short. */
public final class OutlookTest {
    private static final Check CHECK = new Check("OutlookTest");

    public static void main(String[] args) {
        forecast();
        nothingChanges();
        asItComes();
        daysToShort();
        shortForADay();
        beyondTheEnd();
        wrongInputs();
        CHECK.finish();
    }

    private static void forecast() {
        CashPools x = new CashPools();
        x.addPool(0, 0, 0);
        x.addAccount(0, 0);
        x.setRule(1, 2, 5);
        x.schedule(1, 10, 1, 1, 30);
        CHECK.same("behind day 0", x.forecast(0, 1), 0);
        CHECK.same("behind day 1", x.forecast(0, 2), 5);
        CHECK.same("the account below", x.forecast(1, 2), 5);
        CHECK.same("behind Friday", x.forecast(0, 5), 35);
        CHECK.same("behind Sunday", x.forecast(0, 7), 35);
        CHECK.same("behind Monday", x.forecast(0, 8), 65);
        CHECK.same("behind 60 days", x.forecast(0, 60), 295);
    }

    /** Asking runs through interest, lines, banks and flows, and leaves all of them as they were. */
    private static void nothingChanges() {
        CashPools x = busyDesk();
        for (int days = 0; days < 6; days++) {
            String before = Snapshot.of(x);
            for (int account = 0; account < x.accounts(); account++) {
                x.forecast(account, 60);
                x.afterSweepByMoves(account);
            }
            x.daysToShort(0, 60);
            CHECK.same("as before", before.equals(Snapshot.of(x)) ? 1 : 0, 1);
            x.passDays(7);
        }
    }

    private static void asItComes() {
        for (int days = 1; days <= 60; days++) {
            CashPools x = busyDesk();
            x.passDays(13);
            long[] told = new long[x.accounts()];
            for (int account = 0; account < told.length; account++) {
                told[account] = x.forecast(account, days);
            }
            x.passDays(days);
            CHECK.balances("behind " + days + " days", x, told);
        }
    }

    private static CashPools busyDesk() {
        CashPools x = new CashPools();
        x.addPool(0, 300, 900);
        x.addAccount(0, 1);
        x.addAccount(1, 2);
        x.addPool(2, 1000, 1000);
        x.addAccount(3, 3);
        x.setRule(1, 1, 20000);
        x.setRule(2, 2, 300);
        x.addLine(0, 400000, 700);
        x.addLine(0, 100000, 700);
        x.setBankLimit(2, 250000);
        x.book(3, 900000);
        x.schedule(2, 70000, 0, 3, 12);
        x.schedule(0, -95000, 2, 2, 15);
        x.schedule(4, -20001, 9, 9, 9);
        int owing = x.addPool(3, 0, 1000);
        x.book(owing, -800000);
        x.addLine(owing, 500000, 1000);
        return x;
    }

    private static void daysToShort() {
        CashPools x = new CashPools();
        x.addPool(0, 0, 0);
        x.schedule(0, -1, 3, 1, 1);
        CHECK.same("behind the fourth day", x.daysToShort(0, 60), 4);
        CHECK.same("the last that is looked at", x.daysToShort(0, 4), 4);
        CHECK.same("not so far", x.daysToShort(0, 3), -1);
        x.book(0, 1);
        CHECK.same("0 is not short", x.daysToShort(0, 60), -1);
        x.book(0, -2);
        CHECK.same("short from the first day on", x.daysToShort(0, 60), 1);
        x.addLine(0, 1, 0);
        CHECK.same("covered until then", x.daysToShort(0, 60), 4);
        x.passDays(3);
        CHECK.same("counted from today", x.daysToShort(0, 60), 1);
    }

    private static void shortForADay() {
        CashPools x = new CashPools();
        x.addPool(0, 0, 0);
        x.addPool(0, 0, 0);
        x.addAccount(0, 0);
        x.schedule(0, -50, 1, 1, 1);
        x.schedule(0, 80, 2, 1, 1);
        x.schedule(2, -50, 0, 1, 1);
        CHECK.same("short and not any more", x.daysToShort(0, 10), 2);
        CHECK.same("another pool", x.daysToShort(1, 10), -1);
        x.book(0, -5);
        CHECK.same("behind a day, not now", x.daysToShort(0, 10), 1);
        x.schedule(0, 6, 0, 1, 1);
        CHECK.same("behind a day, not now", x.daysToShort(0, 10), 2);
    }

    /** Beyond the day 450 no day is a holiday, and flows that began before it go on. */
    private static void beyondTheEnd() {
        CashPools x = new CashPools();
        x.addPool(0, 0, 0);
        for (int times = 0; times < 6; times++) {
            x.passDays(60);
        }
        x.passDays(40);
        CHECK.same("today", x.today(), 400);
        x.schedule(0, 1, 400, 1, 30);
        x.schedule(0, -100, 450, 9, 2);
        x.addHoliday(449);
        x.addHoliday(450);
        CHECK.same("behind day 429", x.forecast(0, 30), 30);
        CHECK.same("behind the holidays", x.forecast(0, 51), 30);
        CHECK.same("behind day 451", x.forecast(0, 52), -70);
        CHECK.same("behind day 459", x.forecast(0, 60), -170);
        CHECK.same("daysToShort", x.daysToShort(0, 60), 52);
        x.book(0, 100);
        CHECK.same("daysToShort", x.daysToShort(0, 60), 60);
        CHECK.same("daysToShort", x.daysToShort(0, 59), -1);
        CHECK.same("today", x.today(), 400);
    }

    private static void wrongInputs() {
        CashPools x = busyDesk();
        CHECK.refused(x, "no account", Check.INDEX, () -> x.forecast(6, 0));
        CHECK.refused(x, "no account", Check.INDEX, () -> x.forecast(-1, 1));
        CHECK.refused(x, "0 days", Check.ARGUMENT, () -> x.forecast(0, 0));
        CHECK.refused(x, "61 days", Check.ARGUMENT, () -> x.forecast(0, 61));
        CHECK.refused(x, "no account", Check.INDEX, () -> x.daysToShort(6, 0));
        CHECK.refused(x, "no account", Check.INDEX, () -> x.daysToShort(-1, 1));
        CHECK.refused(x, "0 days", Check.ARGUMENT, () -> x.daysToShort(0, 0));
        CHECK.refused(x, "61 days", Check.ARGUMENT, () -> x.daysToShort(0, 61));
        CHECK.refused(x, "no top account", Check.STATE, () -> x.daysToShort(1, 1));
        CHECK.refused(x, "argument before state", Check.ARGUMENT, () -> x.daysToShort(1, 61));
    }
}
