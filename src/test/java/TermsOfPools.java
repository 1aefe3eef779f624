/** The part "Terms": the desk, its days and its pools. */
final class TermsOfPools {
    private TermsOfPools() {
    }

    static void hold(Sentences doc) {
        doc.section("Terms");
        doc.says("Callers add pools, accounts and lines, schedule flows, let days pass, and ask for balances now"
                + " and in some days.", TermsOfPools::wholeDesk);
        doc.says("Days are numbered from 0, a Monday; every Saturday and Sunday,", TermsOfPools::weekends);
        doc.says("and each holiday, is no settlement day.", TermsOfPools::holidays);
        doc.says("Today is 0 at first.", c -> c.same("today()", new CashPools().today(), 0));
        doc.says("All amounts are whole cents and may be below 0 where told.", TermsOfPools::belowZero);
        doc.says("Rates are in basis points a year of 360 days.", TermsOfPools::yearOf360Days);
        doc.says("Pools. The top account of a pool has no parent;", TermsOfPools::noParent);
        doc.says("every other account has one parent, which was added before it,", TermsOfPools::parentFirst);
        doc.says("and belongs to the pool of its parent.", TermsOfPools::poolOfTheParent);
        doc.says("Accounts are numbered from 0 in the order in which they were added, those of all pools together;",
                TermsOfPools::numbers);
        doc.says("a pool is named by the number of its top account.", TermsOfPools::poolsByTheirTop);
        doc.says("Each account is at one of the banks 0 to 3.", TermsOfPools::banks);
    }

    private static void wholeDesk(Check c) {
        CashPools x = new CashPools();
        int pool = x.addPool(0, 0, 0);
        int account = x.addAccount(pool, 1);
        int line = x.addLine(pool, 50, 0);
        x.schedule(account, 70, 1, 1, 1);
        x.book(pool, -20);
        c.same("passDays", x.passDays(1), 1);
        c.same("drawn", x.drawn(line), 20);
        c.balances("now", x, 0, 0);
        c.same("in a day", x.forecast(account, 1), 70);
    }

    private static void weekends(Check c) {
        CashPools x = new CashPools();
        for (int day = 0; day <= 450; day++) {
            int weekday = day % 7;
            int due = weekday == 5 ? day + 2 : weekday == 6 ? day + 1 : day;
            c.same("settlementDay(" + day + ")", x.settlementDay(day), due);
        }
    }

    private static void holidays(Check c) {
        CashPools x = new CashPools();
        x.addHoliday(0);
        x.addHoliday(4);
        x.addHoliday(7);
        c.same("from Monday", x.settlementDay(0), 1);
        c.same("from Thursday", x.settlementDay(3), 3);
        c.same("from Friday, over the weekend and Monday", x.settlementDay(4), 8);
    }

    private static void belowZero(Check c) {
        CashPools x = Desks.pool(0, 0);
        c.same("book", x.book(1, -1), -1);
        x.setFloor(0, -2);
        x.setRule(1, 1, -3);
        c.swept("a target below 0", x, 2, -3);
        x.schedule(0, -4, 0, 1, 1);
        c.same("a flow", x.scheduled(0, 0, 0), -4);
    }

    /** 180000 at one basis point is 18 a year of 360 days: 1 in 20 days. */
    private static void yearOf360Days(Check c) {
        CashPools exact = Desks.rated(1, 0, 180000);
        exact.passDays(20);
        c.same("interest", exact.interestOf(0), 1);
        CashPools less = Desks.rated(1, 0, 179999);
        less.passDays(20);
        c.same("interest of a cent less", less.interestOf(0), 0);
        CashPools year = Desks.rated(1000, 0, 1000000);
        Desks.letPass(year, 20);
        c.same("a tenth for a year, in 20 days", year.interestOf(0), 5555);
    }

    private static void noParent(Check c) {
        CashPools x = Desks.pool(500, 0);
        c.swept("the top keeps it", x, 500, 0);
        c.refused("a rule of the top", () -> Desks.pool(500, 0), Check.STATE, d -> d.setRule(0, 1, 0));
        x.addPool(0, 0, 0);
        c.same("the top of another pool", x.poolOf(2), 2);
    }

    private static void parentFirst(Check c) {
        c.refused("the account itself as parent", () -> Desks.pool(0), Check.INDEX, x -> x.addAccount(1, 0));
        CashPools x = Desks.pool(0);
        c.same("the account before", x.addAccount(0, 0), 1);
        x.addAccount(1, 0);
        x.setRule(2, 1, 0);
        x.book(2, 8);
        c.swept("to one parent alone", x, 0, 8, 0);
    }

    private static void poolOfTheParent(Check c) {
        CashPools x = Desks.pool(0);
        x.addPool(0, 0, 0);
        int below = x.addAccount(1, 0);
        int deepest = x.addAccount(below, 0);
        int other = x.addAccount(0, 0);
        c.same("below the second pool", x.poolOf(below), 1);
        c.same("below that one", x.poolOf(deepest), 1);
        c.same("below the first pool", x.poolOf(other), 0);
    }

    private static void numbers(Check c) {
        CashPools x = new CashPools();
        c.same("a pool", x.addPool(0, 0, 0), 0);
        c.same("an account of it", x.addAccount(0, 0), 1);
        c.same("another pool", x.addPool(0, 0, 0), 2);
        c.same("an account of the first pool", x.addAccount(0, 0), 3);
        c.same("an account of the second pool", x.addAccount(2, 0), 4);
    }

    private static void poolsByTheirTop(Check c) {
        CashPools x = Desks.pool(0, 0, 0);
        int pool = x.addPool(0, 0, 0);
        c.same("the second pool", pool, 3);
        c.same("the name of the first pool", x.poolOf(2), 0);
        c.same("the name of the second pool", x.poolOf(pool), pool);
        c.same("asked by its name", x.poolInterest(pool), 0);
        c.refused("not by its place", Desks::busy, Check.STATE, d -> d.poolInterest(1));
    }

    private static void banks(Check c) {
        CashPools x = Desks.atBanks(new int[] {0, 1, 2, 3}, 1, 20, 300, 4000);
        c.same("exposure(0)", x.exposure(0), 1);
        c.same("exposure(1)", x.exposure(1), 20);
        c.same("exposure(2)", x.exposure(2), 300);
        c.same("exposure(3)", x.exposure(3), 4000);
    }
}
