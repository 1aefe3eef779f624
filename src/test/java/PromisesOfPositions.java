/** Promises 17 to 25: what is there now. */
final class PromisesOfPositions {
    private PromisesOfPositions() {
    }

    static void hold(Sentences doc) {
        accounts(doc);
        poolOf(doc);
        balance(doc);
        total(doc);
        exposure(doc);
        drawn(doc);
        costOf(doc);
        interestOf(doc);
        poolInterest(doc);
    }

    private static void accounts(Sentences doc) {
        doc.section("Promise 17");
        doc.says("Returns how many accounts there are.", c -> {
            CashPools x = new CashPools();
            c.same("none", x.accounts(), 0);
            x.addPool(0, 0, 0);
            c.same("a pool's top", x.accounts(), 1);
            x.addAccount(0, 0);
            c.same("and another one", x.accounts(), 2);
            x.addPool(0, 0, 0);
            c.same("of two pools", x.accounts(), 3);
            c.same("the most", Desks.full().accounts(), 10);
        });
    }

    private static void poolOf(Sentences doc) {
        doc.section("Promise 18");
        doc.says("Returns the pool to which an account belongs.", c -> {
            int[] due = {0, 0, 0, 3, 3, 5, 5, 5, 5, 9};
            CashPools x = Desks.full();
            for (int account = 0; account < 10; account++) {
                c.same("poolOf(" + account + ")", x.poolOf(account), due[account]);
            }
            c.same("ten levels down", Desks.accounts(10).poolOf(9), 0);
        });
        doc.says("Throws `IndexOutOfBoundsException` if there is no such account", c -> {
            c.numbers(6, Desks::busy, (x, account) -> x.poolOf(account));
            c.numbers(10, Desks::full, (x, account) -> x.poolOf(account));
        });
    }

    private static void balance(Sentences doc) {
        doc.section("Promise 19");
        doc.says("Returns the balance of an account.", c -> {
            CashPools x = Desks.pool(0, 5, -6);
            c.balances("of each", x, 0, 5, -6);
            c.balances("far beyond the greatest amount", Desks.pool(400000000, -80000000), 400000000, -80000000);
        });
        doc.says("Throws `IndexOutOfBoundsException` if there is no such account", c -> {
            c.numbers(6, Desks::busy, (x, account) -> x.balance(account));
            c.numbers(10, Desks::full, (x, account) -> x.balance(account));
        });
    }

    private static void total(Sentences doc) {
        doc.section("Promise 20");
        doc.says("Returns the sum of the balances of an account and of all accounts below it.", c -> {
            CashPools x = Desks.accounts(4);
            x.addAccount(1, 0);
            x.addPool(0, 0, 0);
            Desks.bookAll(x, 1, 20, -300, 4000, 50000, 600000);
            long[] due = {53721, 53720, 3700, 4000, 50000, 600000};
            for (int account = 0; account < due.length; account++) {
                c.same("total(" + account + ")", x.total(account), due[account]);
            }
            c.same("a new account", Desks.pool(0).total(0), 0);
            CashPools deep = Desks.chain(1, 10, 100, 1000, 10000, 100000, 1000000, 2000000, 30000000, 100000000);
            c.same("ten levels", deep.total(0), 133111111);
            c.same("the last of them", deep.total(9), 100000000);
        });
        doc.says("Throws `IndexOutOfBoundsException` if there is no such account", c -> {
            c.numbers(6, Desks::busy, (x, account) -> x.total(account));
            c.numbers(10, Desks::full, (x, account) -> x.total(account));
        });
    }

    private static void exposure(Sentences doc) {
        doc.section("Promise 21");
        doc.says("Returns the exposure of a bank.", c -> {
            CashPools x = Desks.atBanks(new int[] {0, 1, 0}, 10, 200, 3000);
            c.same("two accounts", x.exposure(0), 3010);
            c.same("one account", x.exposure(1), 200);
            c.same("no account", x.exposure(2), 0);
            x.setBankLimit(0, 5);
            c.same("whatever the limit is", x.exposure(0), 3010);
            x.forecast(0, 60);
            c.same("behind a forecast", x.exposure(0), 3010);
            x.book(2, -4000);
            c.same("without what is below 0", x.exposure(0), 10);
        });
        doc.says("`bank`: 0 to 3", c -> {
            c.range(0, 3, Desks::busy, (x, bank) -> x.exposure(bank));
            CashPools x = Desks.atBanks(new int[] {3, 0}, 7, 8);
            c.same("the last", x.exposure(3), 7);
            c.same("the first", x.exposure(0), 8);
        });
        doc.says("Throws `IllegalArgumentException` if bank is out of range", c -> {
            c.refused("-1", CashPools::new, Check.ARGUMENT, x -> x.exposure(-1));
            c.refused("4", CashPools::new, Check.ARGUMENT, x -> x.exposure(4));
        });
    }

    private static void drawn(Sentences doc) {
        doc.section("Promise 22");
        doc.says("Returns how much is drawn from a line.", c -> {
            CashPools x = Desks.pool(-10000000);
            x.addLine(0, 10000000, 0);
            x.addLine(0, 5, 1000);
            c.drawn("nothing at first", x, 0, 0);
            x.passDays(1);
            c.drawn("the greatest limit", x, 10000000, 0);
            x.book(0, -4);
            x.passDays(1);
            c.drawn("the other line", x, 10000000, 4);
            x.forecast(0, 60);
            c.drawn("behind a forecast", x, 10000000, 4);
        });
        doc.says("Throws `IndexOutOfBoundsException` if there is no such line", c -> {
            c.numbers(0, () -> Desks.pool(0), (x, line) -> x.drawn(line));
            c.numbers(3, Desks::busy, (x, line) -> x.drawn(line));
            c.numbers(6, Desks::full, (x, line) -> x.drawn(line));
        });
    }

    private static void costOf(Sentences doc) {
        doc.section("Promise 23");
        doc.says("Returns the interest that was booked for a line so far.", c -> {
            CashPools x = Desks.pool(-720000);
            x.addLine(0, 720000, 500);
            x.addLine(0, 720000, 600);
            x.passDays(19);
            c.same("accrued, not booked", x.costOf(0), 0);
            x.passDays(1);
            c.same("booked", x.costOf(0), 2000);
            c.same("of the other line", x.costOf(1), 0);
            x.passDays(20);
            c.same("booked twice", x.costOf(0), 4000);
            c.same("2000 drawn from the other line for 18 days", x.costOf(1), 6);
            c.drawn("the cost is drawn too", x, 720000, 2000);
            x.forecast(0, 60);
            c.same("behind a forecast", x.costOf(0), 4000);
            x.book(0, 800000);
            x.passDays(1);
            c.same("paid back, the cost stays", x.costOf(0), 4000);
        });
        doc.says("Throws `IndexOutOfBoundsException` if there is no such line", c -> {
            c.numbers(0, () -> Desks.pool(0), (x, line) -> x.costOf(line));
            c.numbers(3, Desks::busy, (x, line) -> x.costOf(line));
            c.numbers(6, Desks::full, (x, line) -> x.costOf(line));
        });
    }

    private static void interestOf(Sentences doc) {
        doc.section("Promise 24");
        doc.says("Returns the interest that an account got so far, less what was taken off it", c -> {
            CashPools x = Desks.rated(1000, 500, 180000, 0);
            x.passDays(19);
            c.same("accrued, not booked", x.interestOf(0), 0);
            x.passDays(1);
            c.same("got", x.interestOf(0), 1000);
            c.same("of the other account", x.interestOf(1), 0);
            x.book(0, -361000);
            x.passDays(20);
            c.same("less what was taken off: 500", x.interestOf(0), 500);
            x.passDays(20);
            c.same("below 0: 501 more", x.interestOf(0), -1);
            x.forecast(0, 60);
            c.same("behind a forecast", x.interestOf(0), -1);
        });
        doc.says("less what was taken off it (without the interest of lines).", c -> {
            CashPools x = Desks.rated(1000, 1000, -180000);
            x.addLine(0, 180000, 1000);
            x.passDays(20);
            c.same("of the line", x.costOf(0), 1000);
            c.same("of the top account", x.interestOf(0), 0);
        });
        doc.says("Throws `IndexOutOfBoundsException` if there is no such account", c -> {
            c.numbers(6, Desks::busy, (x, account) -> x.interestOf(account));
            c.numbers(10, Desks::full, (x, account) -> x.interestOf(account));
        });
    }

    private static void poolInterest(Sentences doc) {
        doc.section("Promise 25");
        doc.says("Returns the interest that a pool got so far, less what was taken off it (without the interest of"
                + " lines):", c -> {
            CashPools x = Desks.rated(1000, 1000, -180000);
            x.addLine(0, 100000, 1000);
            x.passDays(20);
            c.same("of the line", x.costOf(0), 555);
            c.same("80000 for 20 days", x.poolInterest(0), -444);
            c.balances("both are taken off", x, -80999);
        });
        doc.says("all credit sums less all debit sums that were booked.", c -> {
            CashPools x = Desks.rated(1000, 500, 180000, 180000, -180000);
            x.addPool(0, 1000, 1000);
            x.book(3, -360000);
            x.passDays(19);
            c.same("accrued, not booked", x.poolInterest(0), 0);
            x.passDays(1);
            c.interest("a credit sum, of two accounts", x, 0, 1000, 500, 500, 0);
            c.interest("another pool's", x, 3, -2000);
            x.book(0, -361000);
            x.passDays(20);
            c.interest("less a debit sum, of two accounts", x, 0, 1000 - 500, 500 - 250, 500, -250);
            x.passDays(20);
            c.same("less two of them", x.poolInterest(0), 1000 - 500 - 501);
        });
        doc.says("`pool`: the number of a top account", c -> {
            c.same("the first", Desks.full().poolInterest(0), Desks.full().interestOf(0)
                    + Desks.full().interestOf(1) + Desks.full().interestOf(2));
            c.same("the last account", Desks.full().poolInterest(9), 0);
        });
        doc.says("Throws `IndexOutOfBoundsException` if there is no such account", c -> {
            c.refused("-1", Desks::busy, Check.INDEX, x -> x.poolInterest(-1));
            c.refused("6", Desks::busy, Check.INDEX, x -> x.poolInterest(6));
            c.refused("10", Desks::full, Check.INDEX, x -> x.poolInterest(10));
        });
        doc.says("Throws `IllegalStateException` if the account is no top account", c -> {
            for (int account : new int[] {1, 2, 4, 6, 7, 8}) {
                c.refused("account " + account, Desks::full, Check.STATE, x -> x.poolInterest(account));
            }
        });
    }
}
