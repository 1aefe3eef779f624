/** Promises 22 and 23, and what the document says of credit lines. */
public final class LinesTest {
    private static final Check CHECK = new Check("LinesTest");

    public static void main(String[] args) {
        drawAndPayBack();
        paidBackBelowTheFloor();
        onlyTheTopIsCovered();
        poolsApart();
        cost();
        costRemainderStays();
        wrongInputs();
        CHECK.finish();
    }

    private static void drawn(String when, CashPools x, long... due) {
        for (int line = 0; line < due.length; line++) {
            CHECK.same(when + ": drawn(" + line + ")", x.drawn(line), due[line]);
        }
    }

    /** Cheapest first when drawn, dearest first when paid back, ties by the number. */
    private static void drawAndPayBack() {
        CashPools x = new CashPools();
        x.addPool(0, 0, 0);
        x.addLine(0, 40, 300);
        x.addLine(0, 100, 200);
        x.addLine(0, 30, 200);
        x.addLine(0, 20, 0);
        x.addLine(0, 25, 300);
        x.book(0, -15);
        x.passDays(1);
        drawn("the cheapest", x, 0, 0, 0, 15, 0);
        CHECK.balances("covered", x, 0);
        x.book(0, -110);
        x.passDays(1);
        drawn("the lower of two", x, 0, 100, 5, 20, 0);
        x.book(0, -70);
        x.passDays(1);
        drawn("then the dear ones", x, 40, 100, 30, 20, 5);
        CHECK.balances("covered", x, 0);
        x.book(0, -100);
        x.passDays(1);
        drawn("all", x, 40, 100, 30, 20, 25);
        CHECK.balances("not all covered", x, -80);
        x.book(0, 80);
        x.passDays(1);
        drawn("at 0 nothing is paid back", x, 40, 100, 30, 20, 25);
        x.passDays(2);
        x.book(0, 30);
        x.passDays(1);
        drawn("the higher of two dear ones", x, 35, 100, 30, 20, 0);
        x.book(0, 45);
        x.passDays(1);
        drawn("the higher of two cheaper ones", x, 0, 100, 20, 20, 0);
        CHECK.balances("paid back down to 0", x, 0);
        x.book(0, 150);
        x.passDays(1);
        drawn("all is paid back", x, 0, 0, 0, 0, 0);
        CHECK.balances("the rest stays", x, 10);
    }

    private static void paidBackBelowTheFloor() {
        CashPools x = new CashPools();
        x.addPool(0, 0, 0);
        x.addLine(0, 1000, 10);
        x.setFloor(0, 500);
        x.book(0, -300);
        x.passDays(1);
        CHECK.balances("covered to 0, not to the floor", x, 0);
        x.book(0, 400);
        x.passDays(1);
        CHECK.balances("whatever the floor is", x, 100);
        drawn("paid back", x, 0);
    }

    private static void onlyTheTopIsCovered() {
        CashPools x = new CashPools();
        x.addPool(0, 0, 0);
        x.addAccount(0, 0);
        x.addLine(0, 1000, 10);
        x.book(1, -300);
        x.passDays(1);
        CHECK.balances("the account below", x, 0, -300);
        drawn("the account below", x, 0);
        x.setRule(1, 3, 0);
        x.setFloor(0, -100);
        x.passDays(1);
        CHECK.balances("swept, then covered", x, 0, -200);
        drawn("swept, then covered", x, 100);
    }

    private static void poolsApart() {
        CashPools x = new CashPools();
        x.addPool(0, 0, 0);
        x.addPool(0, 0, 0);
        x.addLine(1, 50, 0);
        x.addLine(0, 60, 900);
        x.book(0, -55);
        x.book(1, -45);
        x.passDays(1);
        drawn("each from its own", x, 45, 55);
    }

    /** 720000 at 5 in a hundred: 100 a day. */
    private static void cost() {
        CashPools x = new CashPools();
        x.addPool(0, 0, 1000);
        x.addLine(0, 720000, 500);
        x.addLine(0, 720000, 600);
        x.book(0, -720000);
        x.passDays(19);
        CHECK.same("costOf(0) not yet", x.costOf(0), 0);
        CHECK.balances("not yet", x, 0);
        x.passDays(1);
        CHECK.same("costOf(0)", x.costOf(0), 2000);
        CHECK.same("costOf(1)", x.costOf(1), 0);
        CHECK.balances("taken off", x, -2000);
        CHECK.same("no interest of the account", x.interestOf(0), 0);
        CHECK.same("no interest of the pool", x.poolInterest(0), 0);
        x.passDays(20);
        CHECK.same("costOf(0), twice", x.costOf(0), 4000);
        CHECK.same("costOf(1): 2000 for 19 days or so", x.costOf(1), 6);
        drawn("the cost is drawn too", x, 720000, 2000);
    }

    private static void costRemainderStays() {
        CashPools x = new CashPools();
        x.addPool(0, 0, 0);
        x.addLine(0, 100, 1000);
        x.book(0, -99);
        x.passDays(20);
        CHECK.same("0.55", x.costOf(0), 0);
        x.passDays(20);
        CHECK.same("1.10", x.costOf(0), 1);
        CHECK.balances("1.10", x, -1);
    }

    private static void wrongInputs() {
        CashPools x = new CashPools();
        x.addPool(0, 0, 0);
        x.addLine(0, 1, 1);
        CHECK.refused(x, "drawn(1)", Check.INDEX, () -> x.drawn(1));
        CHECK.refused(x, "drawn(-1)", Check.INDEX, () -> x.drawn(-1));
        CHECK.refused(x, "costOf(1)", Check.INDEX, () -> x.costOf(1));
        CHECK.refused(x, "costOf(-1)", Check.INDEX, () -> x.costOf(-1));
    }
}
