/** Promises 8 to 11: today, holidays, settlement days, days that pass. */
public final class DaysTest {
    private static final Check CHECK = new Check("DaysTest");

    public static void main(String[] args) {
        holidays();
        settlementDays();
        noSettlementDayLeft();
        passDays();
        nothingSettlesAtWeekends();
        orderWithinADay();
        CHECK.finish();
    }

    private static void holidays() {
        CashPools x = new CashPools();
        CHECK.same("a Saturday changes no count", x.addHoliday(5), 323);
        CHECK.same("a Sunday", x.addHoliday(6), 323);
        CHECK.same("a Monday", x.addHoliday(7), 322);
        CHECK.same("the same again", x.addHoliday(7), 322);
        CHECK.same("the first day", x.addHoliday(0), 321);
        CHECK.same("the last day", x.addHoliday(450), 320);
        CHECK.refused(x, "day 451", Check.ARGUMENT, () -> x.addHoliday(451));
        CHECK.refused(x, "day -1", Check.ARGUMENT, () -> x.addHoliday(-1));
        x.passDays(30);
        CHECK.same("a day that is gone", x.addHoliday(8), 319);
    }

    private static void settlementDays() {
        CashPools x = new CashPools();
        for (int day = 0; day <= 450; day++) {
            int weekday = day % 7;
            int due = weekday == 5 ? day + 2 : weekday == 6 ? day + 1 : day;
            CHECK.same("settlementDay(" + day + ")", x.settlementDay(day), due);
        }
        x.addHoliday(7);
        CHECK.same("behind a holiday", x.settlementDay(5), 8);
        CHECK.same("ahead of it", x.settlementDay(4), 4);
        CHECK.refused(x, "day 451", Check.ARGUMENT, () -> x.settlementDay(451));
        CHECK.refused(x, "day -1", Check.ARGUMENT, () -> x.settlementDay(-1));
        x.passDays(20);
        CHECK.same("a day that is gone", x.settlementDay(3), 3);
    }

    private static void noSettlementDayLeft() {
        CashPools x = new CashPools();
        x.addHoliday(450);
        CHECK.same("the last day but one", x.settlementDay(449), 449);
        CHECK.same("none up to 450", x.settlementDay(450), -1);
        x.addHoliday(448);
        x.addHoliday(449);
        CHECK.same("none from a Saturday", x.settlementDay(446), -1);
        CHECK.same("Friday", x.settlementDay(445), 445);
    }

    private static void passDays() {
        CashPools x = new CashPools();
        CHECK.refused(x, "0 days", Check.ARGUMENT, () -> x.passDays(0));
        CHECK.refused(x, "-1 days", Check.ARGUMENT, () -> x.passDays(-1));
        CHECK.refused(x, "61 days", Check.ARGUMENT, () -> x.passDays(61));
        CHECK.same("1 day", x.passDays(1), 1);
        for (int times = 1; times <= 6; times++) {
            CHECK.same("60 days", x.passDays(60), 1 + 60 * times);
        }
        CHECK.refused(x, "to 401", Check.STATE, () -> x.passDays(40));
        CHECK.refused(x, "argument before state", Check.ARGUMENT, () -> x.passDays(61));
        CHECK.same("to 400", x.passDays(39), 400);
        CHECK.refused(x, "beyond 400", Check.STATE, () -> x.passDays(1));
        CHECK.same("today", x.today(), 400);
        CHECK.same("a holiday on day 400 or later", x.addHoliday(400), 322);
    }

    private static void nothingSettlesAtWeekends() {
        CashPools x = new CashPools();
        x.addPool(0, 0, 0);
        x.addAccount(0, 1);
        x.addLine(0, 100, 0);
        x.passDays(5);
        x.setRule(1, 1, 0);
        x.setBankLimit(1, 10);
        x.book(0, -30);
        x.book(1, 50);
        x.addHoliday(7);
        x.passDays(3);
        CHECK.balances("Saturday, Sunday and a holiday", x, -30, 50);
        CHECK.same("drawn", x.drawn(0), 0);
        x.passDays(1);
        CHECK.balances("Tuesday", x, 20, 0);
    }

    /** Flows, then sweeps, then covers, then eases; interest behind them, by what lies there then. */
    private static void orderWithinADay() {
        CashPools x = new CashPools();
        x.addPool(0, 0, 0);
        x.addAccount(0, 1);
        x.setRule(1, 1, 100);
        x.addLine(0, 1000, 1000);
        x.book(0, -40);
        x.schedule(1, 300, 0, 1, 1);
        x.setBankLimit(0, 50);
        x.passDays(1);
        CHECK.same("swept before it is covered", x.drawn(0), 0);
        CHECK.balances("eased behind both", x, 50, 210);
        x.book(0, -100);
        x.setRule(1, 0, 0);
        x.passDays(1);
        CHECK.same("covered", x.drawn(0), 50);
        CHECK.balances("covered", x, 0, 210);
    }
}
