/** Promises 8 to 11: today, holidays, settlement days, days that pass. */
final class PromisesOfDays {
    private PromisesOfDays() {
    }

    static void hold(Sentences doc) {
        today(doc);
        addHoliday(doc);
        settlementDay(doc);
        passDays(doc);
    }

    private static void today(Sentences doc) {
        doc.section("Promise 8");
        doc.says("Returns today.", c -> {
            CashPools x = new CashPools();
            c.same("at first", x.today(), 0);
            x.passDays(1);
            c.same("behind a day", x.today(), 1);
            x.passDays(60);
            c.same("behind 61 days", x.today(), 61);
            x.addPool(0, 0, 0);
            x.forecast(0, 60);
            x.daysToShort(0, 60);
            c.same("behind a forecast", x.today(), 61);
            c.same("the last", Desks.last().today(), 400);
        });
    }

    private static void addHoliday(Sentences doc) {
        doc.section("Promise 9");
        doc.says("Makes a day a holiday.", c -> {
            CashPools x = Desks.pool(0);
            x.schedule(0, 5, 2, 1, 1);
            x.addHoliday(2);
            c.same("settlementDay", x.settlementDay(2), 3);
            x.passDays(3);
            c.balances("nothing is booked on it", x, 0);
            x.passDays(1);
            c.balances("but behind it", x, 5);
        });
        doc.says("`day`: 0 to 450", c -> {
            c.range(0, 450, Desks::busy, (x, day) -> x.addHoliday(day));
            CashPools x = new CashPools();
            c.same("the first", x.addHoliday(0), 322);
            c.same("the last", x.addHoliday(450), 321);
            c.same("settlementDay(0)", x.settlementDay(0), 1);
            c.same("settlementDay(450)", x.settlementDay(450), -1);
            c.same("a day that is gone", Desks.last().addHoliday(3), 320);
            c.same("today", Desks.onDay(400).addHoliday(400), 322);
        });
        doc.says("Returns how many of the days 0 to 450 are settlement days then.", c -> {
            CashPools x = new CashPools();
            c.same("a Saturday", x.addHoliday(5), 323);
            c.same("a Sunday", x.addHoliday(6), 323);
            c.same("a Monday", x.addHoliday(7), 322);
            c.same("the same again", x.addHoliday(7), 322);
            c.same("a Friday", x.addHoliday(11), 321);
            c.same("the Saturday again", x.addHoliday(5), 321);
        });
        doc.says("Returns how many of the days 0 to 450 are settlement days then.", c -> {
            CashPools x = new CashPools();
            int due = 323;
            for (int day = 0; day <= 450; day++) {
                due -= day % 7 < 5 ? 1 : 0;
                c.same("up to day " + day, x.addHoliday(day), due);
            }
            c.same("none is left", due, 0);
        });
        doc.says("Throws `IllegalArgumentException` if day is out of range", c -> {
            c.refused("-1", CashPools::new, Check.ARGUMENT, x -> x.addHoliday(-1));
            c.refused("451", Desks::last, Check.ARGUMENT, x -> x.addHoliday(451));
        });
    }

    private static void settlementDay(Sentences doc) {
        doc.section("Promise 10");
        doc.says("Returns the first settlement day that is a day or later.", c -> {
            CashPools x = new CashPools();
            c.same("a settlement day", x.settlementDay(4), 4);
            c.same("a Saturday", x.settlementDay(5), 7);
            c.same("a Sunday", x.settlementDay(6), 7);
            x.addHoliday(7);
            x.addHoliday(9);
            c.same("over a holiday", x.settlementDay(5), 8);
            c.same("a holiday", x.settlementDay(9), 10);
            x.passDays(30);
            c.same("a day that is gone", x.settlementDay(3), 3);
        });
        doc.says("`day`: 0 to 450", c -> {
            c.range(0, 450, Desks::busy, (x, day) -> x.settlementDay(day));
            CashPools x = Desks.last();
            c.same("the first", x.settlementDay(0), 0);
            c.same("the last", x.settlementDay(450), 450);
        });
        doc.says("Returns the day; -1 if there is none up to 450.", c -> {
            CashPools x = new CashPools();
            x.addHoliday(450);
            c.same("the last day but one", x.settlementDay(449), 449);
            c.same("the last day", x.settlementDay(450), -1);
            x.addHoliday(448);
            x.addHoliday(449);
            c.same("Friday", x.settlementDay(445), 445);
            c.same("Saturday", x.settlementDay(446), -1);
            c.same("Monday", x.settlementDay(448), -1);
        });
        doc.says("Returns the day; -1 if there is none up to 450.", c -> {
            CashPools x = allHolidays();
            c.same("from the first day on", x.settlementDay(0), -1);
        });
        doc.says("Throws `IllegalArgumentException` if day is out of range", c -> {
            c.refused("-1", CashPools::new, Check.ARGUMENT, x -> x.settlementDay(-1));
            c.refused("451", Desks::last, Check.ARGUMENT, x -> x.settlementDay(451));
        });
    }

    /** Each of the days 0 to 450 is a holiday, or at a weekend. */
    static CashPools allHolidays() {
        CashPools x = new CashPools();
        for (int day = 0; day <= 450; day++) {
            if (day % 7 < 5) {
                x.addHoliday(day);
            }
        }
        return x;
    }

    private static void passDays(Sentences doc) {
        doc.section("Promise 11");
        doc.says("Lets days pass.", c -> {
            CashPools x = Desks.pool(0);
            CashPools y = Desks.pool(0);
            x.schedule(0, 5, 0, 1, 30);
            y.schedule(0, 5, 0, 1, 30);
            x.passDays(10);
            for (int days = 0; days < 10; days++) {
                y.passDays(1);
            }
            c.balances("ten at once", x, 50);
            c.balances("one by one", y, 50);
        });
        doc.says("`days`: 1 to 60", c -> {
            c.range(1, 60, Desks::busy, (x, days) -> x.passDays(days));
            CashPools x = Desks.pool(0);
            x.schedule(0, 1, 0, 1, 1);
            x.schedule(0, 20, 1, 1, 1);
            x.schedule(0, 300, 59, 1, 2);
            x.schedule(0, 4000, 60, 1, 1);
            x.passDays(1);
            c.balances("1: the day 0", x, 1);
            x.passDays(60);
            c.balances("60: the days 1 to 60", x, 4621);
        });
        doc.says("Returns today, then.", c -> {
            CashPools x = new CashPools();
            c.same("1", x.passDays(1), 1);
            c.same("60", x.passDays(60), 61);
            c.same("2", x.passDays(2), 63);
            c.same("today", x.today(), 63);
        });
        doc.says("Throws `IllegalArgumentException` if days is out of range", c -> {
            c.refused("0", CashPools::new, Check.ARGUMENT, x -> x.passDays(0));
            c.refused("61", CashPools::new, Check.ARGUMENT, x -> x.passDays(61));
            c.refused("0 on the last day", Desks::last, Check.ARGUMENT, x -> x.passDays(0));
        });
        doc.says("Throws `IllegalStateException` if today would be later than 400", c -> {
            c.same("to 400, by 60", Desks.onDay(340).passDays(60), 400);
            c.same("to 400, by 1", Desks.onDay(399).passDays(1), 400);
            c.refused("to 401, by 60", () -> Desks.onDay(341), Check.STATE, x -> x.passDays(60));
            c.refused("to 401, by 2", () -> Desks.onDay(399), Check.STATE, x -> x.passDays(2));
            c.refused("to 401, by 1", Desks::last, Check.STATE, x -> x.passDays(1));
            c.refused("to 460", Desks::last, Check.STATE, x -> x.passDays(60));
        });
    }
}
