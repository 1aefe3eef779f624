import java.util.Arrays;

/** The part "Terms": how interest accrues, is booked and is split. */
final class TermsOfInterest {
    private TermsOfInterest() {
    }

    static void hold(Sentences doc) {
        doc.section("Terms");
        doc.says("Interest accrues. With t for the sum of the balances of a pool:", TermsOfInterest::onTheSum);
        doc.says("Interest accrues. With t for the sum of the balances of a pool:", TermsOfInterest::everyDay);
        doc.says("if t is above 0, the credit sum of the pool grows by t times its credit rate,",
                TermsOfInterest::creditSum);
        doc.says("and the credit weight of each of its accounts with a balance above 0 by that balance;",
                TermsOfInterest::creditWeights);
        doc.says("if t is below 0, its debit sum grows by the size of t times its debit rate,",
                TermsOfInterest::debitSum);
        doc.says("and the debit weight of each of its accounts with a balance below 0 by the size of that balance.",
                TermsOfInterest::debitWeights);
        doc.says("The sum of each line grows by what is drawn, times its rate.", TermsOfInterest::lineSum);
        doc.says("If the number of the day plus 1 is a multiple of 20, interest is booked.",
                TermsOfInterest::everyTwentyDays);
        doc.says("For each pool, by rising numbers: its credit sum divided by 3600000, rounded down,",
                TermsOfInterest::creditRoundedDown);
        doc.says("is split in proportion to credit weights and added to the balances;", TermsOfInterest::credited);
        doc.says("its debit sum likewise is split in proportion to debit weights and taken off the balances;",
                TermsOfInterest::debited);
        doc.says("of both sums the remainder of the division stays,", TermsOfInterest::remaindersStay);
        doc.says("and all weights become 0.", TermsOfInterest::weightsBecomeZero);
        doc.says("and all weights become 0.", TermsOfInterest::weightsBecomeZeroWithNothingBooked);
        doc.says("and all weights become 0.", TermsOfInterest::leastWeight);
        doc.says("Then for each line, by rising numbers, its sum divided by 3600000, rounded down, is taken off the"
                + " balance of the top account,", TermsOfInterest::lineCost);
        doc.says("and the remainder stays.", TermsOfInterest::lineRemainderStays);
        doc.says("An amount is split in proportion to weights so: each gets the amount times its weight, divided by"
                + " the sum of the weights, rounded down;", TermsOfInterest::shares);
        doc.says("An amount is split in proportion to weights so: each gets the amount times its weight, divided by"
                + " the sum of the weights, rounded down;", TermsOfInterest::largeShares);
        doc.says("the cents that are left go one each to the greatest remainders of that division,",
                TermsOfInterest::centsThatAreLeft);
        doc.says("the lower account number first if remainders are the same.", TermsOfInterest::sameRemainders);
    }

    private static CashPools afterTwentyDays(CashPools x) {
        x.passDays(20);
        return x;
    }

    private static void onTheSum(Check c) {
        CashPools x = Desks.rated(1000, 1000, 300000, 900000, -300000);
        x.addPool(0, 1000, 1000);
        x.book(3, 180000);
        x.passDays(20);
        c.interest("900000 together", x, 0, 5000, 1250, 3750, 0);
        c.interest("another pool", x, 3, 1000);
        CashPools none = afterTwentyDays(Desks.rated(1000, 1000, 500000, -500000));
        c.interest("0 together", none, 0, 0, 0, 0);
        CashPools less = afterTwentyDays(Desks.rated(1000, 1000, 300000, -480000));
        c.interest("180000 short together", less, 0, -1000, 0, -1000);
    }

    /** By the balances behind the settlement of the day, on days without settlement too. */
    private static void everyDay(Check c) {
        CashPools x = Desks.rated(1000, 0, 0);
        x.schedule(0, 180000, 0, 1, 1);
        x.passDays(20);
        c.interest("from the day on which it comes", x, 0, 1000, 1000);
        CashPools weekend = Desks.onDay(5);
        weekend.addPool(0, 1000, 0);
        weekend.book(0, 180000);
        weekend.passDays(2);
        weekend.book(0, -180000);
        weekend.passDays(13);
        c.interest("a Saturday and a Sunday", weekend, 0, 100, 100);
    }

    /** Behind 400 days 9 at the greatest rate make the first cent. */
    private static void creditSum(Check c) {
        CashPools nine = Desks.rated(1000, 1000, 9, 0);
        Desks.letPass(nine, 399);
        c.interest("a day less", nine, 0, 0, 0, 0);
        nine.passDays(1);
        c.interest("9", nine, 0, 1, 1, 0);
        CashPools eight = Desks.rated(1000, 1000, 8, 0);
        Desks.letPass(eight, 400);
        c.interest("8", eight, 0, 0, 0, 0);
        c.interest("the rate 0", afterTwentyDays(Desks.rated(0, 1000, 1000000)), 0, 0, 0);
        c.interest("the rate 1", afterTwentyDays(Desks.rated(1, 1000, 900000)), 0, 5, 5);
    }

    /** Ten days with 400000 at an account and t together, ten days with 180000 at the top alone. */
    private static CashPools twoHalves(int sign, int t) {
        CashPools x = Desks.rated(1000, 1000, 0, sign * 400000L, t - sign * 400000L);
        x.passDays(10);
        Desks.bookAll(x, sign * 180000L, -sign * 400000L, sign * 400000L - t);
        x.passDays(10);
        return x;
    }

    private static void creditWeights(Check c) {
        c.interest("1 together: weights as 1800000 to 4000000", twoHalves(1, 1), 0, 500, 155, 345, 0);
        c.interest("0 together: no weights", twoHalves(1, 0), 0, 500, 500, 0, 0);
        c.interest("-1 together: no credit weights", twoHalves(1, -1), 0, 500, 500, 0, 0);
        CashPools x = afterTwentyDays(Desks.rated(1000, 0, 180000, 0, -1, 1));
        c.interest("balances of 0, -1 and 1", x, 0, 1000, 1000, 0, 0, 0);
    }

    private static void debitSum(Check c) {
        CashPools nine = Desks.rated(1000, 1000, -9, 0);
        Desks.letPass(nine, 399);
        c.interest("a day less", nine, 0, 0, 0, 0);
        nine.passDays(1);
        c.interest("9", nine, 0, -1, -1, 0);
        CashPools eight = Desks.rated(1000, 1000, -8, 0);
        Desks.letPass(eight, 400);
        c.interest("8", eight, 0, 0, 0, 0);
        c.interest("the rate 0", afterTwentyDays(Desks.rated(1000, 0, -1000000)), 0, 0, 0);
        c.interest("the rate 1", afterTwentyDays(Desks.rated(1000, 1, -900000)), 0, -5, -5);
    }

    private static void debitWeights(Check c) {
        c.interest("-1 together: weights as 1800000 to 4000000", twoHalves(-1, -1), 0, -500, -155, -345, 0);
        c.interest("0 together: no weights", twoHalves(-1, 0), 0, -500, -500, 0, 0);
        c.interest("1 together: no debit weights", twoHalves(-1, 1), 0, -500, -500, 0, 0);
        CashPools x = afterTwentyDays(Desks.rated(0, 1000, -180000, 0, 1, -1));
        c.interest("balances of 0, 1 and -1", x, 0, -1000, -1000, 0, 0, 0);
    }

    /** 720000 at 5 in a hundred: 100 a day, from the day on which it is drawn. */
    private static void lineSum(Check c) {
        CashPools x = Desks.pool(-720000);
        x.addLine(0, 720000, 500);
        x.addLine(0, 720000, 501);
        x.passDays(20);
        c.same("what is drawn", x.costOf(0), 2000);
        c.same("nothing drawn", x.costOf(1), 0);
        CashPools free = Desks.pool(-720000);
        free.addLine(0, 720000, 0);
        c.same("the rate 0", afterTwentyDays(free).costOf(0), 0);
        CashPools half = Desks.pool(-720000);
        half.addLine(0, 720000, 500);
        half.passDays(10);
        half.book(0, 360000);
        half.passDays(10);
        c.same("half of it is paid back on day 10", half.costOf(0), 1500);
        CashPools most = Desks.pool(-10000000);
        most.addLine(0, 10000000, 1000);
        c.same("the greatest limit at the greatest rate", afterTwentyDays(most).costOf(0), 55555);
    }

    private static void everyTwentyDays(Check c) {
        CashPools x = Desks.rated(360, 0, 1000000);
        x.addPool(0, 0, 0);
        x.addLine(1, 100000, 720);
        x.book(1, -100000);
        long due = 0;
        long dueCost = 0;
        for (int today = 1; today <= 59; today++) {
            x.passDays(1);
            if (today == 20 || today == 40) {
                due += today == 20 ? 2000 : 2004;
                dueCost += 400;
            }
            c.same("interest, today " + today, x.interestOf(0), due);
            c.same("cost, today " + today, x.costOf(0), dueCost);
        }
        Desks.letPass(x, 340);
        due = x.interestOf(0);
        dueCost = x.costOf(0);
        c.same("19 bookings of cost up to today 399", dueCost, 19 * 400);
        x.passDays(1);
        c.same("the last one behind day 399", x.costOf(0), 20 * 400);
        c.same("interest behind day 399", x.interestOf(0) > due ? 1 : 0, 1);
    }

    private static void creditRoundedDown(Check c) {
        CashPools x = Desks.rated(1, 0, 179999);
        for (int pool = 1; pool <= 4; pool++) {
            x.addPool(0, 1, 0);
        }
        Desks.bookAll(x, 0, 180000, 359999, 360000, 0);
        x.passDays(20);
        c.interest("3599980", x, 0, 0);
        c.interest("3600000", x, 1, 1);
        c.interest("7199980", x, 2, 1);
        c.interest("7200000", x, 3, 2);
        c.interest("0", x, 4, 0);
    }

    private static void credited(Check c) {
        CashPools x = Desks.rated(1000, 500, 300000, 900000, -300000);
        x.passDays(19);
        c.balances("not yet", x, 300000, 900000, -300000);
        x.passDays(1);
        c.interest("as 1 to 3", x, 0, 5000, 1250, 3750, 0);
        c.balances("added", x, 301250, 903750, -300000);
    }

    /** Ten days above 0, ten days below it: 777 are 277.5 and 499.5, the cent is the lower number's. */
    private static void debited(Check c) {
        CashPools x = Desks.rated(1000, 500, -300000, -900000, 300000);
        x.passDays(19);
        c.balances("not yet", x, -300000, -900000, 300000);
        x.passDays(1);
        c.interest("as 1 to 3", x, 0, -2500, -625, -1875, 0);
        c.balances("taken off", x, -300625, -901875, 300000);
        CashPools both = Desks.rated(1000, 1000, 900000, -180000);
        both.passDays(10);
        both.book(0, -1000000);
        both.passDays(10);
        c.interest("both in one period", both, 0, 2000 - 777, 2000 - 278, -499);
        c.balances("both in one period", both, -100000 + 1722, -180499);
    }

    /** 100 a period is 5/9 of a cent: a cent in the second period, with 1/9 left. */
    private static void remaindersStay(Check c) {
        int[] due = {0, 1, 1, 2, 2, 3, 3, 4, 5, 5};
        CashPools credit = Desks.rated(1000, 0, 100);
        CashPools debit = Desks.rated(0, 1000, -100);
        for (int period = 0; period < due.length; period++) {
            int done = period == 0 ? 0 : due[period - 1];
            credit.passDays(20);
            debit.passDays(20);
            c.same("credit, period " + period, credit.poolInterest(0), due[period]);
            c.same("debit, period " + period, debit.poolInterest(0), -due[period]);
            if (due[period] > done) {
                credit.book(0, done - due[period]);
                debit.book(0, due[period] - done);
            }
        }
        CashPools both = Desks.rated(1000, 1000, 100);
        both.passDays(20);
        both.book(0, -200);
        both.passDays(20);
        c.interest("5/9 credit and 5/9 debit are two remainders", both, 0, 0, 0);
        both.book(0, 200);
        both.passDays(20);
        c.interest("10/9 credit", both, 0, 1, 1);
        both.book(0, -201);
        both.passDays(20);
        c.interest("10/9 debit", both, 0, 0, 0);
    }

    /** 2 split as 3 to 1 is a tie of 1.5 and 0.5: any weight that is left over would turn it. */
    private static void weightsBecomeZero(Check c) {
        CashPools x = Desks.rated(360, 0, 750, 250, 0);
        x.passDays(20);
        c.interest("first", x, 0, 2, 2, 0, 0);
        x.book(0, -2);
        x.passDays(20);
        c.interest("second", x, 0, 4, 4, 0, 0);
        CashPools y = Desks.rated(0, 360, -750, -250, 0);
        y.passDays(20);
        c.interest("first", y, 0, -2, -2, 0, 0);
        y.book(0, 2);
        y.passDays(20);
        c.interest("second", y, 0, -4, -4, 0, 0);
        CashPools moved = Desks.rated(1000, 0, 900000, 0);
        moved.passDays(20);
        c.interest("all to the first", moved, 0, 5000, 5000, 0);
        moved.book(0, -905000);
        moved.book(1, 900000);
        moved.passDays(20);
        c.interest("all to the second", moved, 0, 10000, 5000, 5000);
    }

    /** 5/9 of a cent is not booked, but its weights are gone. */
    private static void weightsBecomeZeroWithNothingBooked(Check c) {
        CashPools x = Desks.rated(1000, 0, 100, 0);
        x.passDays(20);
        Desks.bookAll(x, -100, 100);
        x.passDays(20);
        c.interest("credit", x, 0, 1, 0, 1);
        CashPools y = Desks.rated(0, 1000, -100, 0);
        y.passDays(20);
        Desks.bookAll(y, 100, -100);
        y.passDays(20);
        c.interest("debit", y, 0, -1, 0, -1);
    }

    /** 3599000 stay; a day with 1 together makes it a cent, which goes by the weights 2 and 0 of that day. */
    private static void leastWeight(Check c) {
        for (int sign = -1; sign <= 1; sign += 2) {
            CashPools x = Desks.rated(1000, 1000, sign * 180, 0, 0, 0);
            x.passDays(19);
            x.book(0, -sign);
            x.passDays(1);
            c.interest("0.9997", x, 0, 0, 0, 0, 0, 0);
            Desks.bookAll(x, -sign * 179, 0, sign * 2, -sign);
            x.passDays(1);
            Desks.bookAll(x, 0, 0, -sign * 2, sign);
            x.passDays(18);
            c.interest("not yet", x, 0, 0, 0, 0, 0, 0);
            x.passDays(1);
            c.interest("1", x, 0, sign, 0, 0, sign, 0);
        }
        CashPools one = Desks.rated(1000, 1000, 180, 0);
        one.passDays(19);
        one.book(0, -1);
        one.passDays(1);
        Desks.bookAll(one, -179, 1);
        one.passDays(1);
        one.book(1, -1);
        one.passDays(19);
        c.interest("the weight 1 alone", one, 0, 1, 0, 1);
    }

    private static CashPools drawnAt(int amount, int rate) {
        CashPools x = Desks.rated(1000, 1000, -amount, 0);
        x.addLine(0, amount, rate);
        return afterTwentyDays(x);
    }

    private static void lineCost(Check c) {
        c.same("3599980", drawnAt(179999, 1).costOf(0), 0);
        c.same("3600000", drawnAt(180000, 1).costOf(0), 1);
        c.same("7199980", drawnAt(359999, 1).costOf(0), 1);
        CashPools x = drawnAt(360000, 1);
        c.same("7200000", x.costOf(0), 2);
        c.balances("taken off the top", x, -2, 0);
        c.interest("it is no interest of an account or a pool", x, 0, 0, 0, 0);
        CashPools two = Desks.pool(-540000);
        two.addPool(0, 0, 0);
        two.book(1, -180000);
        two.addLine(0, 180000, 1);
        two.addLine(1, 180000, 10);
        two.addLine(0, 360000, 2);
        two.passDays(20);
        c.balances("of each line, from its own pool", two, -1 - 4, -10);
    }

    /** 99 a period are 0.55 of a cent; the cost itself is drawn too. */
    private static void lineRemainderStays(Check c) {
        CashPools x = Desks.pool(-99);
        x.addLine(0, 100, 1000);
        x.passDays(20);
        c.same("0.55", x.costOf(0), 0);
        x.passDays(20);
        c.same("1.10", x.costOf(0), 1);
        c.balances("1.10", x, -1);
        CashPools nine = Desks.pool(-9);
        nine.addLine(0, 9, 1000);
        Desks.letPass(nine, 399);
        c.same("a day less than 400", nine.costOf(0), 0);
        nine.passDays(1);
        c.same("9 in 400 days", nine.costOf(0), 1);
    }

    private static void shares(Check c) {
        c.interest("9 as 1 to 2", afterTwentyDays(Desks.rated(1000, 0, 540, 1080)), 0, 9, 3, 6);
        c.interest("1 as 1 to 2", afterTwentyDays(Desks.rated(1000, 0, 60, 120)), 0, 1, 0, 1);
        c.interest("0 as 1 to 2", afterTwentyDays(Desks.rated(1000, 0, 50, 100)), 0, 0, 0, 0);
        c.interest("7 as 1 to 3 to 5", afterTwentyDays(Desks.rated(1000, 0, 140, 420, 700)), 0, 7, 1, 2, 4);
        c.interest("9 as 1 to 0", afterTwentyDays(Desks.rated(1000, 0, 1620, 0)), 0, 9, 9, 0);
        c.interest("9 off, as 2 to 1", afterTwentyDays(Desks.rated(0, 1000, -1080, -540)), 0, -9, -6, -3);
    }

    /** Far beyond what an int holds: sums of 6000000000000, weights of 4000000000. */
    private static void largeShares(Check c) {
        CashPools x = Desks.rated(1000, 1000, 200000000, 100000000);
        x.passDays(20);
        c.interest("1666666 and 2 in 3 cents", x, 0, 1666666, 1111111, 555555);
        x.passDays(20);
        c.same("with interest on interest", x.poolInterest(0), 1666666 + 1675926);
        CashPools y = Desks.rated(1000, 1000, -200000000, -100000000);
        y.passDays(20);
        c.interest("the same taken off", y, 0, -1666666, -1111111, -555555);
    }

    private static void centsThatAreLeft(Check c) {
        c.interest("7 as 1 to 3 to 5: 7/9, 3/9 and 8/9 are left",
                afterTwentyDays(Desks.rated(1000, 0, 140, 420, 700)), 0, 7, 1, 2, 4);
        c.interest("7 as 5 to 3 to 1",
                afterTwentyDays(Desks.rated(1000, 0, 700, 420, 140)), 0, 7, 4, 2, 1);
        c.interest("the greater one, not the lower number",
                afterTwentyDays(Desks.rated(1000, 0, 80, 100)), 0, 1, 0, 1);
        c.interest("not the greater weight: 3 as 160 to 380",
                afterTwentyDays(Desks.rated(1000, 0, 160, 380)), 0, 3, 1, 2);
        c.interest("9 to ten alike", afterTwentyDays(Desks.rated(1000, 0, alike(162))), 0, 9,
                1, 1, 1, 1, 1, 1, 1, 1, 1, 0);
        c.interest("10 to ten alike", afterTwentyDays(Desks.rated(1000, 0, alike(180))), 0, 10,
                1, 1, 1, 1, 1, 1, 1, 1, 1, 1);
        c.interest("19 to ten alike", afterTwentyDays(Desks.rated(1000, 0, alike(342))), 0, 19,
                2, 2, 2, 2, 2, 2, 2, 2, 2, 1);
    }

    private static long[] alike(long balance) {
        long[] balances = new long[10];
        Arrays.fill(balances, balance);
        return balances;
    }

    private static void sameRemainders(Check c) {
        c.interest("6 to 4 alike", afterTwentyDays(Desks.rated(1000, 0, 300, 300, 300, 300)), 0, 6, 2, 2, 1, 1);
        c.interest("6 off 4 alike", afterTwentyDays(Desks.rated(0, 1000, -300, -300, -300, -300)), 0, -6,
                -2, -2, -1, -1);
        c.interest("2 as 1 to 3", afterTwentyDays(Desks.rated(1000, 0, 90, 270)), 0, 2, 1, 1);
        c.interest("not to one without a weight", afterTwentyDays(Desks.rated(1000, 0, 0, 90, 90)), 0, 1, 0, 1, 0);
        CashPools x = Desks.rated(1000, 0, 0);
        x.addPool(0, 1000, 0);
        x.addAccount(1, 0);
        x.addAccount(0, 0);
        x.addAccount(2, 0);
        x.addAccount(3, 0);
        Desks.bookAll(x, 0, 0, 90, 90, 90, 90);
        x.passDays(20);
        c.interest("in a pool with other numbers between", x, 0, 1, 0, 0, 1, 1, 0, 0);
        c.interest("in the other pool", x, 1, 1);
    }
}
