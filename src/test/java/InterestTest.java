/** Promises 24 and 25, and what the document says of interest and of splitting an amount. */
public final class InterestTest {
    private static final Check CHECK = new Check("InterestTest");

    public static void main(String[] args) {
        creditOnTheSum();
        debitOnTheSum();
        bothInOnePeriod();
        centsByRemainder();
        sameRemainders();
        remainderStays();
        weightsStartAgain();
        weightsStartFromNothing();
        weightsGrowWithTheirSum();
        everyTwentyDays();
        poolsApart();
        noInterest();
        wrongInputs();
        CHECK.finish();
    }

    private static CashPools pool(int creditRate, int debitRate, int... balances) {
        CashPools x = new CashPools();
        x.addPool(0, creditRate, debitRate);
        for (int account = 1; account < balances.length; account++) {
            x.addAccount(0, 0);
        }
        for (int account = 0; account < balances.length; account++) {
            if (balances[account] != 0) {
                x.book(account, balances[account]);
            }
        }
        return x;
    }

    private static void interest(String when, CashPools x, long pool, long... due) {
        CHECK.same(when + ": poolInterest", x.poolInterest(0), pool);
        for (int account = 0; account < due.length; account++) {
            CHECK.same(when + ": interestOf(" + account + ")", x.interestOf(account), due[account]);
        }
    }

    /** 900000 together, 20 days at 10 in a hundred: 5000, to the two above 0 as 1 to 3. */
    private static void creditOnTheSum() {
        CashPools x = pool(1000, 500, 300000, 900000, -300000);
        x.passDays(19);
        interest("not yet", x, 0, 0, 0, 0);
        CHECK.balances("not yet", x, 300000, 900000, -300000);
        x.passDays(1);
        interest("booked", x, 5000, 1250, 3750, 0);
        CHECK.balances("booked", x, 301250, 903750, -300000);
    }

    private static void debitOnTheSum() {
        CashPools x = pool(1000, 500, -300000, -900000, 300000);
        x.passDays(20);
        interest("taken off", x, -2500, -625, -1875, 0);
        CHECK.balances("taken off", x, -300625, -901875, 300000);
    }

    /** Ten days above 0, ten days below it: 777 are 277.5 and 499.5, the cent is the lower number's. */
    private static void bothInOnePeriod() {
        CashPools x = pool(1000, 1000, 900000, -180000);
        x.passDays(10);
        x.book(0, -1000000);
        x.passDays(10);
        interest("both", x, 2000 - 777, 2000 - 278, -499);
        CHECK.balances("both", x, -100000 + 1722, -180499);
    }

    /** 7 to be split as 1, 3 and 5: 0 7/9, 2 3/9, 3 8/9. */
    private static void centsByRemainder() {
        CashPools x = pool(1000, 0, 140, 420, 700);
        x.passDays(20);
        interest("the greatest remainders", x, 7, 1, 2, 4);
    }

    private static void sameRemainders() {
        CashPools x = pool(1000, 1000, 300, 300, 300, 300);
        x.passDays(20);
        interest("6 to 4 alike", x, 6, 2, 2, 1, 1);
        CashPools y = pool(1000, 1000, -300, -300, -300, -300);
        y.passDays(20);
        interest("6 off 4 alike", y, -6, -2, -2, -1, -1);
    }

    /** 100 a period is 0.5 of a cent and 5/9 more: the remainder makes a cent in the second period. */
    private static void remainderStays() {
        CashPools x = pool(1000, 0, 100);
        x.passDays(20);
        interest("0.55", x, 0, 0);
        x.passDays(20);
        interest("1.11", x, 1, 1);
        CashPools y = pool(0, 1000, -100);
        y.passDays(20);
        interest("-0.55", y, 0, 0);
        y.passDays(20);
        interest("-1.11", y, -1, -1);
    }

    private static void weightsStartAgain() {
        CashPools x = pool(1000, 0, 900000, 0);
        x.passDays(20);
        interest("all to the first", x, 5000, 5000, 0);
        x.book(0, -905000 + 1);
        x.book(1, 900000 - 1);
        x.passDays(20);
        interest("all but nothing to the second", x, 10000, 5000, 5000);
        x.addAccount(1, 0);
        CHECK.same("a new account", x.interestOf(2), 0);
    }

    /** 2 split as 3 to 1 is a tie of 1.5 and 0.5: any weight that is left over would turn it. */
    private static void weightsStartFromNothing() {
        CashPools x = pool(360, 0, 750, 250, 0);
        x.passDays(20);
        interest("first", x, 2, 2, 0, 0);
        x.book(0, -2);
        x.passDays(20);
        interest("second", x, 4, 4, 0, 0);
        CashPools y = pool(0, 360, -750, -250, 0);
        y.passDays(20);
        interest("first", y, -2, -2, 0, 0);
        y.book(0, 2);
        y.passDays(20);
        interest("second", y, -4, -4, 0, 0);
    }

    /** On days with 0 together no weight grows; the other side's weights do not either. */
    private static void weightsGrowWithTheirSum() {
        CashPools x = pool(1000, 1000, 0, 400000, -400000);
        x.passDays(10);
        x.book(1, -400000);
        x.book(0, 580000);
        x.passDays(10);
        interest("only the second half", x, 500, 500, 0, 0);
        CashPools y = pool(1000, 1000, 180000, -360000);
        y.passDays(10);
        y.book(1, 540000);
        y.passDays(10);
        interest("each in its half", y, -500 + 1000, 500, 500 - 500);
    }

    private static void everyTwentyDays() {
        CashPools x = pool(360, 0, 1000000);
        x.passDays(15);
        x.passDays(4);
        interest("day 18 is over", x, 0, 0);
        x.passDays(1);
        interest("day 19 is over", x, 2000, 2000);
        x.passDays(19);
        interest("day 38 is over", x, 2000, 2000);
        x.passDays(1);
        interest("day 39 is over", x, 4004, 4004);
    }

    private static void poolsApart() {
        CashPools x = pool(1000, 0, 900000);
        x.addPool(0, 0, 1000);
        x.addAccount(1, 0);
        x.addAccount(0, 0);
        x.book(2, -900000);
        x.book(3, -180000);
        x.passDays(20);
        CHECK.same("poolInterest(0)", x.poolInterest(0), 4000);
        CHECK.same("poolInterest(1)", x.poolInterest(1), -5000);
        CHECK.same("interestOf(0)", x.interestOf(0), 4000);
        CHECK.same("interestOf(1)", x.interestOf(1), 0);
        CHECK.same("interestOf(2)", x.interestOf(2), -5000);
        CHECK.same("interestOf(3)", x.interestOf(3), 0);
    }

    private static void noInterest() {
        CashPools x = pool(1000, 1000, 500000, -500000);
        x.passDays(40);
        interest("0 together", x, 0, 0, 0);
        CashPools y = pool(0, 1000, 500000, -400000);
        y.passDays(40);
        interest("credit rate 0", y, 0, 0, 0);
        CashPools z = pool(1000, 0, 400000, -500000);
        z.passDays(40);
        interest("debit rate 0", z, 0, 0, 0);
    }

    private static void wrongInputs() {
        CashPools x = pool(1, 1, 5, 6);
        CHECK.refused(x, "interestOf(2)", Check.INDEX, () -> x.interestOf(2));
        CHECK.refused(x, "interestOf(-1)", Check.INDEX, () -> x.interestOf(-1));
        CHECK.refused(x, "poolInterest(2)", Check.INDEX, () -> x.poolInterest(2));
        CHECK.refused(x, "poolInterest(-1)", Check.INDEX, () -> x.poolInterest(-1));
        CHECK.refused(x, "poolInterest(1)", Check.STATE, () -> x.poolInterest(1));
    }
}
