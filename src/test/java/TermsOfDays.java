/** The part "Terms": what happens when a day passes, in its order, but for interest. */
final class TermsOfDays {
    private static final int SATURDAY = 5;
    private static final int SUNDAY = 6;
    private static final int HOLIDAY = 7;

    private TermsOfDays() {
    }

    static void hold(Sentences doc) {
        doc.section("Terms");
        doc.says("When a day passes, these things happen, in this order:", TermsOfDays::allInOneDay);
        doc.says("If it is a settlement day:", TermsOfDays::onlyOnSettlementDays);
        doc.says("all scheduled flows that are due on it", TermsOfDays::dueOnIt);
        doc.says("or were due earlier and are not done yet are booked;", TermsOfDays::dueEarlier);
        doc.says("then all pools are swept,", TermsOfDays::sweptBehindFlows);
        doc.says("then all pools are covered, by rising numbers;", TermsOfDays::coveredBehindSweeps);
        doc.says("then the banks are eased.", TermsOfDays::easedBehindCovers);
        doc.says("then the banks are eased.", TermsOfDays::easedBehindAllCovers);
        doc.says("4. The next day is today.", TermsOfDays::nextDay);
    }

    /** Day 39 is a Friday, and the last day before interest is booked. */
    private static void allInOneDay(Check c) {
        CashPools x = Desks.onDay(39);
        x.addPool(0, 1000, 0);
        x.addAccount(0, 1);
        x.addAccount(0, 2);
        x.setRule(1, 1, 36000);
        x.addLine(0, 7200, 1000);
        x.setBankLimit(1, 14400);
        x.book(0, -7200);
        x.schedule(1, 36000, 39, 1, 1);
        c.same("passDays", x.passDays(1), 40);
        c.drawn("covered", x, 7200);
        c.interest("36000 for a day", x, 0, 10, 6, 4, 0);
        c.same("7200 drawn for a day", x.costOf(0), 2);
        c.balances("eased, then interest and cost", x, 21600 + 6 - 2, 14400 + 4, 0);
    }

    /** A desk on the day before, with a flow, a sweep, a cover and a move to be made. */
    private static CashPools toBeSettled(int day) {
        CashPools x = Desks.onDay(day);
        x.addHoliday(HOLIDAY);
        x.addPool(0, 0, 0);
        x.addAccount(0, 1);
        x.addPool(2, 0, 0);
        x.addLine(2, 100, 0);
        x.addPool(3, 0, 0);
        x.addAccount(3, 2);
        x.setRule(1, 1, 0);
        x.setBankLimit(3, 10);
        x.book(1, 50);
        x.book(2, -30);
        x.book(3, 70);
        x.schedule(0, 5, day, 1, 1);
        x.passDays(1);
        return x;
    }

    private static void onlyOnSettlementDays(Check c) {
        for (int day : new int[] {SATURDAY, SUNDAY, HOLIDAY}) {
            CashPools x = toBeSettled(day);
            c.balances("day " + day, x, 0, 50, -30, 70, 0);
            c.drawn("day " + day, x, 0);
            c.same("day " + day + ": timesLeft", x.timesLeft(0), 1);
        }
        for (int day : new int[] {SATURDAY - 1, HOLIDAY + 1, 0}) {
            CashPools x = toBeSettled(day);
            c.balances("day " + day, x, 55, 0, 0, 10, 60);
            c.drawn("day " + day, x, 30);
            c.same("day " + day + ": timesLeft", x.timesLeft(0), 0);
        }
    }

    private static void dueOnIt(Check c) {
        CashPools x = Desks.pool(0, 0);
        x.schedule(0, 10, 0, 1, 2);
        x.schedule(1, -300, 1, 1, 1);
        x.schedule(0, 5000, 2, 1, 1);
        x.passDays(1);
        c.balances("behind day 0", x, 10, 0);
        x.passDays(1);
        c.balances("behind day 1", x, 20, -300);
        x.passDays(1);
        c.balances("behind day 2", x, 5020, -300);
        x.passDays(1);
        c.balances("each time once", x, 5020, -300);
    }

    private static void dueEarlier(Check c) {
        CashPools x = Desks.pool(0);
        x.schedule(0, 10, 4, 1, 4);
        x.addHoliday(HOLIDAY);
        x.passDays(8);
        c.balances("Saturday's, Sunday's and the holiday's wait", x, 10);
        c.same("timesLeft", x.timesLeft(0), 3);
        x.passDays(1);
        c.balances("all at once", x, 40);
        c.same("timesLeft", x.timesLeft(0), 0);
        x.addHoliday(4);
        x.passDays(1);
        c.balances("what is done stays done, on a holiday that is gone too", x, 40);
    }

    private static void sweptBehindFlows(Check c) {
        CashPools x = Desks.pool(0, 0);
        x.addPool(0, 0, 0);
        x.addAccount(2, 0);
        x.setRule(1, 1, 100);
        x.setRule(3, 3, 40);
        x.schedule(1, 300, 0, 1, 1);
        x.schedule(2, 25, 0, 1, 1);
        x.passDays(1);
        c.balances("what came in that day is swept, in all pools", x, 200, 100, 0, 25);
    }

    private static void coveredBehindSweeps(Check c) {
        CashPools x = Desks.pool(-40, 90);
        x.setRule(1, 1, 60);
        x.addPool(0, 0, 0);
        x.addPool(0, 0, 0);
        x.addLine(3, 100, 0);
        x.addLine(0, 100, 0);
        x.addLine(2, 100, 0);
        x.book(2, -7);
        x.book(3, -8);
        x.passDays(1);
        c.drawn("in all pools, what sweeping leaves short", x, 8, 10, 7);
        c.balances("in all pools", x, 0, 60, 0, 0);
        x.setRule(1, 3, 80);
        x.book(0, 15);
        x.passDays(1);
        c.drawn("what is swept down is not there to pay back", x, 8, 10, 7);
        c.balances("what is swept down", x, 0, 75, 0, 0);
    }

    /** A top below 0 could not get anything; covered it can. Paid back, it has nothing to give. */
    private static void easedBehindCovers(Check c) {
        CashPools x = Desks.limits(Desks.atBanks(new int[] {0, 1}, -10, 50), -1, 20);
        x.addLine(0, 100, 0);
        x.passDays(1);
        c.drawn("drawn", x, 10);
        c.balances("drawn, then moved", x, 30, 20);
        Desks.limits(x, 0, -1);
        x.passDays(1);
        c.drawn("paid back", x, 0);
        c.balances("paid back, then moved", x, 0, 40);
    }

    /** What the second pool pays back is no excess that the first pool would have to move. */
    private static void easedBehindAllCovers(Check c) {
        CashPools x = Desks.atBanks(new int[] {0, 1}, 50, 0);
        x.addPool(0, 0, 0);
        x.addLine(2, 100, 0);
        x.book(2, -100);
        x.passDays(1);
        x.setBankLimit(0, 60);
        x.book(2, 100);
        c.same("before", x.exposure(0), 150);
        x.passDays(1);
        c.balances("paid back, nothing moved", x, 50, 0, 0);
        x.book(2, 11);
        x.passDays(1);
        c.balances("1 above the limit, of the first pool", x, 49, 1, 11);
    }

    private static void nextDay(Check c) {
        CashPools x = Desks.pool(0);
        for (int day = 0; day < 400; day++) {
            c.same("passDays(1)", x.passDays(1), day + 1);
        }
        c.same("today", x.today(), 400);
    }
}
