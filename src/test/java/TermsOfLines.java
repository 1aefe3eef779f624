/** The part "Terms": how credit lines cover a pool. */
final class TermsOfLines {
    private TermsOfLines() {
    }

    static void hold(Sentences doc) {
        doc.section("Terms");
        doc.says("Credit lines. A line belongs to a pool, and has a limit and a rate.", TermsOfLines::ofAPool);
        doc.says("When a pool is covered, and the balance of its top account is below 0,", TermsOfLines::belowZero);
        doc.says("what is missing to 0 is drawn from its lines,", TermsOfLines::missingToZero);
        doc.says("what is missing to 0 is drawn from its lines,", TermsOfLines::nothingMissing);
        doc.says("is drawn from its lines, the lowest rate first, of the same rate the lower number first,",
                TermsOfLines::cheapestFirst);
        doc.says("from each at most up to its limit.", TermsOfLines::upToTheLimit);
        doc.says("If the balance is above 0, drawn amounts are paid back as far as it goes down to 0,",
                TermsOfLines::paidBack);
        doc.says("whatever the floor is,", TermsOfLines::whateverTheFloorIs);
        doc.says("the highest rate first, of the same rate the higher number first.", TermsOfLines::dearestFirst);
    }

    private static CashPools withLine(int balance, int limit) {
        CashPools x = Desks.pool(balance, 0);
        x.addLine(0, limit, 100);
        return x;
    }

    private static CashPools afterDay(CashPools x) {
        x.passDays(1);
        return x;
    }

    private static void ofAPool(Check c) {
        CashPools x = Desks.pool(-55);
        x.addPool(0, 0, 0);
        x.book(1, -45);
        x.addLine(1, 50, 0);
        x.addLine(0, 60, 900);
        x.passDays(1);
        c.drawn("each pool from its own", x, 45, 55);
        x.book(0, 200);
        x.passDays(1);
        c.drawn("each pool pays its own back", x, 45, 0);
        c.balances("what is left stays", x, 145, 0);
    }

    private static void belowZero(Check c) {
        CashPools less = afterDay(withLine(-1, 10));
        c.drawn("1 below 0", less, 1);
        c.balances("1 below 0", less, 0, 0);
        c.drawn("0", afterDay(withLine(0, 10)), 0);
        CashPools more = afterDay(withLine(1, 10));
        c.drawn("1 above 0", more, 0);
        c.balances("1 above 0", more, 1, 0);
        CashPools below = withLine(0, 10);
        below.book(1, -5);
        below.passDays(1);
        c.drawn("another account is below 0", below, 0);
        c.balances("another account is below 0", below, 0, -5);
    }

    private static void missingToZero(Check c) {
        CashPools x = withLine(-300, 1000);
        x.setFloor(0, 500);
        x.passDays(1);
        c.balances("to 0, not to the floor", x, 0, 0);
        c.drawn("to 0, not to the floor", x, 300);
        CashPools y = withLine(-300, 1000);
        y.setFloor(0, -200);
        y.passDays(1);
        c.balances("a floor below 0 does not help", y, 0, 0);
    }

    /** A cheaper line that is added later takes nothing over from a dear one that is drawn. */
    private static void nothingMissing(Check c) {
        CashPools x = afterDay(withLine(-8, 8));
        x.addLine(0, 10, 0);
        x.passDays(1);
        c.drawn("at 0", x, 8, 0);
        c.balances("at 0", x, 0, 0);
        x.book(0, 3);
        x.passDays(1);
        c.drawn("above 0", x, 5, 0);
        x.book(0, -2);
        x.passDays(1);
        c.drawn("below 0", x, 5, 2);
        x.book(0, 6);
        x.passDays(1);
        c.drawn("the dear one first", x, 0, 1);
    }

    private static CashPools fiveLines() {
        CashPools x = Desks.pool(0);
        x.addLine(0, 40, 300);
        x.addLine(0, 100, 200);
        x.addLine(0, 30, 200);
        x.addLine(0, 20, 0);
        x.addLine(0, 25, 300);
        return x;
    }

    private static void cheapestFirst(Check c) {
        CashPools x = fiveLines();
        x.book(0, -15);
        x.passDays(1);
        c.drawn("the cheapest", x, 0, 0, 0, 15, 0);
        x.book(0, -110);
        x.passDays(1);
        c.drawn("then the lower of two", x, 0, 100, 5, 20, 0);
        x.book(0, -70);
        x.passDays(1);
        c.drawn("then the dear ones", x, 40, 100, 30, 20, 5);
        c.balances("covered", x, 0);
    }

    private static void upToTheLimit(Check c) {
        CashPools less = afterDay(withLine(-9, 10));
        c.drawn("less than the limit", less, 9);
        CashPools limit = afterDay(withLine(-10, 10));
        c.drawn("the limit", limit, 10);
        c.balances("the limit", limit, 0, 0);
        CashPools more = afterDay(withLine(-11, 10));
        c.drawn("more than the limit", more, 10);
        c.balances("what no line covers stays", more, -1, 0);
        more.book(0, -5);
        more.passDays(1);
        c.drawn("nothing is left of it", more, 10);
        c.balances("nothing is left of it", more, -6, 0);
        less.book(0, -5);
        less.passDays(1);
        c.drawn("only what is left of it", less, 10);
        c.balances("only what is left of it", less, -4, 0);
    }

    private static void paidBack(Check c) {
        for (int balance = -1; balance <= 11; balance++) {
            CashPools x = afterDay(withLine(-10, 10));
            Desks.bookAll(x, balance);
            x.passDays(1);
            c.drawn("with " + balance, x, balance < 0 ? 10 : Math.max(0, 10 - balance));
            c.balances("with " + balance, x, balance < 0 ? -1 : Math.max(0, balance - 10), 0);
        }
    }

    private static void whateverTheFloorIs(Check c) {
        CashPools high = afterDay(withLine(-300, 1000));
        high.setFloor(0, 1000000);
        high.book(0, 200);
        high.passDays(1);
        c.drawn("a floor above the balance", high, 100);
        c.balances("a floor above the balance", high, 0, 0);
        CashPools low = afterDay(withLine(-300, 1000));
        low.setFloor(0, -1000000);
        low.book(0, 200);
        low.passDays(1);
        c.drawn("a floor below 0: not below 0", low, 100);
        c.balances("a floor below 0: not below 0", low, 0, 0);
    }

    private static void dearestFirst(Check c) {
        CashPools x = fiveLines();
        x.book(0, -215);
        x.passDays(1);
        c.drawn("all", x, 40, 100, 30, 20, 25);
        x.book(0, 30);
        x.passDays(1);
        c.drawn("the higher of two dear ones", x, 35, 100, 30, 20, 0);
        x.book(0, 45);
        x.passDays(1);
        c.drawn("the higher of two cheaper ones", x, 0, 100, 20, 20, 0);
        x.book(0, 125);
        x.passDays(1);
        c.drawn("the cheapest last", x, 0, 0, 0, 15, 0);
        x.book(0, 25);
        x.passDays(1);
        c.drawn("all is paid back", x, 0, 0, 0, 0, 0);
        c.balances("the rest stays", x, 10);
    }
}
