/** Promises 1 to 7: a new object, pools, accounts, rules, floors, lines, limits of banks. */
final class PromisesOfPools {
    private PromisesOfPools() {
    }

    static void hold(Sentences doc) {
        newObject(doc);
        addPool(doc);
        addAccount(doc);
        setRule(doc);
        setFloor(doc);
        addLine(doc);
        setBankLimit(doc);
    }

    private static void newObject(Sentences doc) {
        doc.section("Promise 1");
        doc.says("Begins with an empty desk,", PromisesOfPools::nothingIsThere);
        doc.says("Begins with an empty desk,", PromisesOfPools::emptyDeskIsUsed);
        doc.says("Begins with an empty desk,", PromisesOfPools::twoDesks);
        doc.says("on the day 0.", c -> {
            c.same("today", new CashPools().today(), 0);
            c.same("a flow may be due on day 0", Desks.pool(0).schedule(0, 1, 0, 1, 1), 0);
            c.same("a day passes", new CashPools().passDays(1), 1);
        });
    }

    private static void nothingIsThere(Check c) {
        CashPools x = new CashPools();
        c.same("accounts", x.accounts(), 0);
        for (int bank = 0; bank < 4; bank++) {
            c.same("exposure", x.exposure(bank), 0);
            c.same("no limit", x.setBankLimit(bank, -1), -1);
        }
        c.same("no holiday", x.addHoliday(5), 323);
        c.numbers(0, CashPools::new, (d, account) -> d.addAccount(account, 0));
        c.numbers(0, CashPools::new, (d, account) -> d.setRule(account, 0, 0));
        c.numbers(0, CashPools::new, (d, account) -> d.setFloor(account, 0));
        c.numbers(0, CashPools::new, (d, account) -> d.addLine(account, 1, 0));
        c.numbers(0, CashPools::new, (d, account) -> d.book(account, 1));
        c.numbers(0, CashPools::new, (d, account) -> d.schedule(account, 1, 0, 1, 1));
        c.numbers(0, CashPools::new, (d, flow) -> d.cancel(flow));
        c.numbers(0, CashPools::new, (d, flow) -> d.timesLeft(flow));
        c.numbers(0, CashPools::new, (d, account) -> d.scheduled(account, 0, 450));
        c.numbers(0, CashPools::new, (d, account) -> d.poolOf(account));
        c.numbers(0, CashPools::new, (d, account) -> d.balance(account));
        c.numbers(0, CashPools::new, (d, account) -> d.total(account));
        c.numbers(0, CashPools::new, (d, line) -> d.drawn(line));
        c.numbers(0, CashPools::new, (d, line) -> d.costOf(line));
        c.numbers(0, CashPools::new, (d, account) -> d.interestOf(account));
        c.numbers(0, CashPools::new, (d, account) -> d.poolInterest(account));
        c.numbers(0, CashPools::new, (d, account) -> d.afterSweep(account));
        c.numbers(0, CashPools::new, (d, account) -> d.afterSweepByMoves(account));
        c.numbers(0, CashPools::new, (d, account) -> d.forecast(account, 1));
        c.numbers(0, CashPools::new, (d, account) -> d.daysToShort(account, 1));
    }

    private static void emptyDeskIsUsed(Check c) {
        CashPools x = Desks.limits(new CashPools(), 0, 0, 0, 0);
        c.same("days pass on it", x.passDays(60), 60);
        Desks.letPass(x, 340);
        c.same("to the last one", x.today(), 400);
        c.same("accounts", x.accounts(), 0);
        c.same("exposure", x.exposure(0), 0);
        c.same("the first pool", x.addPool(0, 0, 0), 0);
    }

    private static void twoDesks(Check c) {
        CashPools one = Desks.full();
        CashPools other = new CashPools();
        c.same("another desk's accounts", other.accounts(), 0);
        c.same("another desk's today", other.today(), 0);
        c.same("another desk's holidays", other.addHoliday(5), 323);
        c.same("another desk's limits", other.setBankLimit(2, 0), -1);
        c.same("the first desk's limits", one.setBankLimit(2, 0), 250000);
    }

    private static void addPool(Sentences doc) {
        doc.section("Promise 2");
        doc.says("Adds a pool with its top account.", PromisesOfPools::poolIsAdded);
        doc.says("`bank`: 0 to 3", c -> {
            c.range(0, 3, Desks::busy, (x, bank) -> x.addPool(bank, 0, 0));
            for (int bank = 0; bank < 4; bank++) {
                CashPools x = Desks.atBanks(new int[] {bank}, 7);
                c.same("at that bank", x.exposure(bank), 7);
            }
        });
        doc.says("`creditRate`: 0 to 1000 basis points", c -> {
            c.range(0, 1000, Desks::busy, (x, rate) -> x.addPool(0, rate, 0));
            interestAt(c, 0, 1000, 180000, 0);
            interestAt(c, 1000, 0, 180000, 1000);
        });
        doc.says("`debitRate`: 0 to 1000 basis points", c -> {
            c.range(0, 1000, Desks::busy, (x, rate) -> x.addPool(0, 0, rate));
            interestAt(c, 1000, 0, -180000, 0);
            interestAt(c, 0, 1000, -180000, -1000);
        });
        doc.says("Returns the number of the top account.", c -> {
            CashPools x = new CashPools();
            c.same("the first", x.addPool(0, 0, 0), 0);
            c.same("the second", x.addPool(0, 0, 0), 1);
            x.addAccount(0, 0);
            c.same("behind other accounts", x.addPool(0, 0, 0), 3);
            c.same("the tenth", Desks.accounts(9).addPool(0, 0, 0), 9);
        });
        doc.says("Throws `IllegalArgumentException` if bank, creditRate or debitRate is out of range", c -> {
            c.refused("bank on an empty desk", CashPools::new, Check.ARGUMENT, x -> x.addPool(4, 0, 0));
            c.refused("creditRate on an empty desk", CashPools::new, Check.ARGUMENT, x -> x.addPool(3, 1001, 0));
            c.refused("debitRate on an empty desk", CashPools::new, Check.ARGUMENT, x -> x.addPool(3, 0, 1001));
            c.refused("all three", Desks::busy, Check.ARGUMENT, x -> x.addPool(-1, -1, -1));
        });
        doc.says("Throws `IllegalStateException` if there are 10 accounts", c -> {
            CashPools x = Desks.accounts(9);
            c.same("the tenth", x.addPool(0, 0, 0), 9);
            c.refused("the 11th", () -> Desks.accounts(10), Check.STATE, d -> d.addPool(0, 0, 0));
            c.refused("the 11th, of several pools", Desks::full, Check.STATE, d -> d.addPool(3, 1000, 1000));
        });
    }

    private static void interestAt(Check c, int creditRate, int debitRate, int balance, int due) {
        CashPools x = Desks.rated(creditRate, debitRate, balance);
        x.passDays(20);
        c.same("interest of " + balance, x.poolInterest(0), due);
    }

    private static void poolIsAdded(Check c) {
        CashPools x = Desks.pool(5, 6);
        int pool = x.addPool(1, 100, 200);
        c.same("accounts", x.accounts(), 3);
        c.same("poolOf", x.poolOf(pool), pool);
        c.same("balance", x.balance(pool), 0);
        c.same("total", x.total(pool), 0);
        c.same("interestOf", x.interestOf(pool), 0);
        c.same("poolInterest", x.poolInterest(pool), 0);
        c.same("a line of it", x.addLine(pool, 1, 0), 0);
        c.same("an account of it", x.addAccount(pool, 0), 3);
        c.same("the other pool's total", x.total(0), 11);
    }

    private static void addAccount(Sentences doc) {
        doc.section("Promise 3");
        doc.says("Adds an account to a pool.", c -> {
            CashPools x = Desks.pool(5, 6);
            int added = x.addAccount(1, 2);
            c.same("accounts", x.accounts(), 3);
            c.same("poolOf", x.poolOf(added), 0);
            c.same("balance", x.balance(added), 0);
            c.same("interestOf", x.interestOf(added), 0);
            x.book(added, 700);
            c.same("total", x.total(0), 711);
            c.same("at its bank", x.exposure(2), 700);
            c.swept("rule 0 at first", x, 5, 6, 700);
        });
        doc.says("`parent`: the account into which it is swept", c -> {
            CashPools x = Desks.pool(0, 0, 0);
            c.same("below the top", x.addAccount(0, 0), 3);
            c.same("below another one", x.addAccount(2, 0), 4);
            x.setRule(3, 2, 0);
            x.setRule(4, 2, 0);
            Desks.bookAll(x, 0, 0, 0, 30, 40);
            c.swept("each into its parent", x, 30, 0, 40, 0, 0);
        });
        doc.says("`bank`: 0 to 3", c -> {
            c.range(0, 3, Desks::busy, (x, bank) -> x.addAccount(1, bank));
            for (int bank = 0; bank < 4; bank++) {
                CashPools x = Desks.atBanks(new int[] {3 - bank, bank}, 0, 7);
                c.same("at that bank", x.exposure(bank), 7);
            }
        });
        doc.says("Returns the number of the account.", c -> {
            CashPools x = new CashPools();
            x.addPool(0, 0, 0);
            x.addPool(0, 0, 0);
            c.same("below the first pool", x.addAccount(0, 0), 2);
            c.same("below the second pool", x.addAccount(1, 0), 3);
            c.same("the tenth", Desks.accounts(9).addAccount(8, 0), 9);
        });
        doc.says("Throws `IndexOutOfBoundsException` if there is no account parent", c -> {
            c.numbers(0, CashPools::new, (x, parent) -> x.addAccount(parent, 0));
            c.numbers(6, Desks::busy, (x, parent) -> x.addAccount(parent, 0));
        });
        doc.says("Throws `IllegalArgumentException` if bank is out of range", c -> {
            c.refused("below a top", Desks::busy, Check.ARGUMENT, x -> x.addAccount(0, 4));
            c.refused("below another one", Desks::busy, Check.ARGUMENT, x -> x.addAccount(1, -1));
        });
        doc.says("Throws `IllegalStateException` if there are 10 accounts", c -> {
            CashPools x = Desks.accounts(9);
            c.same("the tenth", x.addAccount(0, 3), 9);
            c.refused("the 11th", () -> Desks.accounts(10), Check.STATE, d -> d.addAccount(9, 0));
            c.refused("the 11th, of several pools", Desks::full, Check.STATE, d -> d.addAccount(0, 3));
        });
    }

    private static void setRule(Sentences doc) {
        doc.section("Promise 4");
        doc.says("Changes the rule and the target of an account.", c -> {
            CashPools x = Desks.pool(100, 25, 25);
            x.setRule(1, 1, 5);
            c.swept("rule 1, target 5", x, 120, 5, 25);
            x.setRule(1, 1, 35);
            c.swept("the target alone", x, 90, 35, 25);
            x.setRule(1, 2, 35);
            c.swept("the rule alone", x, 100, 25, 25);
            x.setRule(1, 0, 0);
            c.swept("rule 0 again", x, 100, 25, 25);
        });
        doc.says("`rule`: 0 to 3", c -> {
            c.range(0, 3, Desks::busy, (x, rule) -> x.setRule(1, rule, 7));
            int[] due = {100, 140, 140, 100};
            for (int rule = 0; rule <= 3; rule++) {
                CashPools x = Desks.pool(100, 50);
                x.setRule(1, rule, 10);
                c.same("rule " + rule, x.afterSweep(0), due[rule]);
            }
        });
        doc.says("`target`: -1000000 to 1000000", c -> {
            c.range(-1000000, 1000000, Desks::busy, (x, target) -> x.setRule(1, 1, target));
            CashPools x = Desks.pool(3000000, 0);
            x.setRule(1, 1, 1000000);
            c.swept("the greatest", x, 2000000, 1000000);
            x.setRule(1, 1, -1000000);
            c.swept("the least", x, 4000000, -1000000);
        });
        doc.says("Returns the rule before.", c -> {
            CashPools x = Desks.pool(0, 0, 0);
            c.same("at first", x.setRule(1, 3, 0), 0);
            c.same("3", x.setRule(1, 3, 8), 3);
            c.same("3 again", x.setRule(1, 2, 8), 3);
            c.same("2", x.setRule(1, 1, 8), 2);
            c.same("1", x.setRule(1, 0, 8), 1);
            c.same("0", x.setRule(1, 0, 8), 0);
            c.same("of another account", x.setRule(2, 1, 1), 0);
        });
        doc.says("Throws `IndexOutOfBoundsException` if there is no such account",
                c -> {
                    c.refused("0", CashPools::new, Check.INDEX, x -> x.setRule(0, 0, 0));
                    c.refused("-1", Desks::busy, Check.INDEX, x -> x.setRule(-1, 0, 0));
                    c.refused("6", Desks::busy, Check.INDEX, x -> x.setRule(6, 0, 0));
                    c.refused("10", Desks::full, Check.INDEX, x -> x.setRule(10, 0, 0));
                });
        doc.says("Throws `IllegalArgumentException` if rule or target is out of range", c -> {
            c.refused("rule alone", Desks::busy, Check.ARGUMENT, x -> x.setRule(2, -1, 0));
            c.refused("target alone", Desks::busy, Check.ARGUMENT, x -> x.setRule(2, 3, 1000001));
            c.refused("both", Desks::busy, Check.ARGUMENT, x -> x.setRule(2, 4, -1000001));
        });
        doc.says("Throws `IllegalStateException` if it is a top account", c -> {
            c.refused("of the first pool", Desks::busy, Check.STATE, x -> x.setRule(0, 1, 1));
            c.refused("of the second pool", Desks::busy, Check.STATE, x -> x.setRule(3, 0, 0));
            c.refused("alone", () -> Desks.pool(0), Check.STATE, x -> x.setRule(0, 0, 0));
        });
    }

    private static void setFloor(Sentences doc) {
        doc.section("Promise 5");
        doc.says("Changes the floor of an account.", c -> {
            CashPools x = Desks.chain(70, 0, 0);
            x.setRule(1, 3, 50);
            x.setRule(2, 3, 20);
            x.setFloor(0, 30);
            c.swept("of the top", x, 30, 20, 20);
            x.setFloor(1, 35);
            c.swept("of the account below", x, 30, 35, 5);
            x.setFloor(1, 0);
            x.setFloor(0, 0);
            c.swept("0 again", x, 20, 30, 20);
        });
        doc.says("`floor`: -1000000 to 1000000", c -> {
            c.range(-1000000, 1000000, Desks::busy, (x, floor) -> x.setFloor(1, floor));
            CashPools x = Desks.pool(1000003, -1000000);
            x.setRule(1, 3, 1000000);
            x.setFloor(0, 1000000);
            c.swept("the greatest", x, 1000000, -999997);
            x.setFloor(0, -1000000);
            c.swept("the least", x, -999997, 1000000);
            x.book(1, -5);
            c.swept("down to the least", x, -1000000, 999998);
        });
        doc.says("Returns the floor before.", c -> {
            CashPools x = Desks.pool(0, 0);
            c.same("at first", x.setFloor(1, 1000000), 0);
            c.same("the greatest", x.setFloor(1, -1000000), 1000000);
            c.same("the least", x.setFloor(1, 0), -1000000);
            c.same("of another account", x.setFloor(0, 30), 0);
        });
        doc.says("Throws `IndexOutOfBoundsException` if there is no such account", c -> {
            c.numbers(6, Desks::busy, (x, account) -> x.setFloor(account, 5));
            c.numbers(10, Desks::full, (x, account) -> x.setFloor(account, 5));
        });
        doc.says("Throws `IllegalArgumentException` if floor is out of range", c -> {
            c.refused("of a top", Desks::busy, Check.ARGUMENT, x -> x.setFloor(0, 1000001));
            c.refused("of another one", Desks::busy, Check.ARGUMENT, x -> x.setFloor(2, -1000001));
        });
    }

    private static void addLine(Sentences doc) {
        doc.section("Promise 6");
        doc.says("Adds a credit line to a pool; nothing of it is drawn.", c -> {
            CashPools x = Desks.pool(-50);
            int line = x.addLine(0, 100, 5);
            c.same("drawn", x.drawn(line), 0);
            c.same("costOf", x.costOf(line), 0);
            c.balances("nothing is drawn by the call", x, -50);
            x.passDays(1);
            c.same("drawn in a day", x.drawn(line), 50);
        });
        doc.says("`pool`: the number of a top account", c -> {
            CashPools x = Desks.pool(-5, -6);
            x.addPool(0, 0, 0);
            x.book(2, -7);
            x.addLine(2, 100, 5);
            x.passDays(1);
            c.balances("of that pool alone", x, -5, -6, 0);
        });
        doc.says("`limit`: 1 to 10000000", c -> {
            c.range(1, 10000000, Desks::busy, (x, limit) -> x.addLine(0, limit, 0));
            CashPools x = Desks.pool(-2);
            x.addPool(0, 0, 0);
            Desks.bookAll(x, 0, -10000001);
            x.addLine(0, 1, 0);
            x.addLine(1, 10000000, 0);
            x.passDays(1);
            c.drawn("the least and the greatest", x, 1, 10000000);
            c.balances("the least and the greatest", x, -1, -1);
        });
        doc.says("`rate`: 0 to 1000 basis points", c -> {
            c.range(0, 1000, Desks::busy, (x, rate) -> x.addLine(0, 1, rate));
            CashPools x = Desks.pool(-180000);
            x.addPool(0, 0, 0);
            x.book(1, -180000);
            x.addLine(0, 180000, 0);
            x.addLine(1, 180000, 1000);
            x.passDays(20);
            c.same("the least", x.costOf(0), 0);
            c.same("the greatest", x.costOf(1), 1000);
        });
        doc.says("Returns the number of the line, from 0, lines of all pools together.", c -> {
            CashPools x = Desks.pool(0);
            x.addPool(0, 0, 0);
            c.same("of the second pool", x.addLine(1, 1, 9), 0);
            c.same("of the first pool", x.addLine(0, 1, 8), 1);
            c.same("of the second pool", x.addLine(1, 1, 7), 2);
            c.same("the sixth", Desks.lines(5).addLine(0, 1, 0), 5);
        });
        doc.says("Throws `IndexOutOfBoundsException` if there is no such account", c -> {
            c.refused("0", CashPools::new, Check.INDEX, x -> x.addLine(0, 1, 0));
            c.refused("-1", Desks::busy, Check.INDEX, x -> x.addLine(-1, 1, 0));
            c.refused("6", Desks::busy, Check.INDEX, x -> x.addLine(6, 1, 0));
            c.refused("10", Desks::full, Check.INDEX, x -> x.addLine(10, 1, 0));
        });
        doc.says("Throws `IllegalArgumentException` if limit or rate is out of range", c -> {
            c.refused("limit alone", Desks::busy, Check.ARGUMENT, x -> x.addLine(3, 0, 0));
            c.refused("rate alone", Desks::busy, Check.ARGUMENT, x -> x.addLine(3, 1, 1001));
            c.refused("both", Desks::busy, Check.ARGUMENT, x -> x.addLine(3, 10000001, -1));
        });
        doc.says("Throws `IllegalStateException` if the account is no top account,", c -> {
            c.refused("below the top", Desks::busy, Check.STATE, x -> x.addLine(1, 1, 0));
            c.refused("below that one", Desks::busy, Check.STATE, x -> x.addLine(2, 1, 0));
        });
        doc.says("or there are 6 lines", c -> {
            c.same("the sixth", Desks.lines(5).addLine(0, 1, 0), 5);
            c.refused("the 7th", () -> Desks.lines(6), Check.STATE, x -> x.addLine(0, 1, 0));
            c.refused("the 7th, of another pool", Desks::full, Check.STATE, x -> x.addLine(9, 1, 0));
            c.refused("the 7th, and no top account", () -> Desks.lines(6), Check.STATE, x -> x.addLine(1, 1, 0));
        });
    }

    private static void setBankLimit(Sentences doc) {
        doc.section("Promise 7");
        doc.says("Changes the limit of a bank; nothing is moved by this call.", c -> {
            CashPools x = Desks.atBanks(new int[] {3, 2}, 100, 0);
            x.setBankLimit(3, 60);
            c.balances("behind the call", x, 100, 0);
            c.same("exposure", x.exposure(3), 100);
            x.passDays(1);
            c.balances("behind a day", x, 60, 40);
            x.setBankLimit(3, 50);
            x.setBankLimit(2, 45);
            x.passDays(1);
            c.balances("changed again", x, 55, 45);
        });
        doc.says("`bank`: 0 to 3", c -> c.range(0, 3, Desks::busy, (x, bank) -> x.setBankLimit(bank, 5)));
        doc.says("`limit`: 0 to 1000000000, or -1 for no limit", c -> {
            c.range(-1, 1000000000, Desks::busy, (x, limit) -> x.setBankLimit(2, limit));
            CashPools x = Desks.atBanks(new int[] {0, 1, 2}, 100, 0, 0);
            Desks.limits(x, 0, 1000000000, 999999999);
            x.passDays(1);
            c.balances("0 and the greatest", x, 0, 100, 0);
            Desks.limits(x, -1, 0, 99);
            x.passDays(1);
            c.balances("no limit", x, 100, 0, 0);
        });
        doc.says("Returns the limit before, -1 if there was none.", c -> {
            CashPools x = new CashPools();
            for (int bank = 0; bank < 4; bank++) {
                c.same("at first", x.setBankLimit(bank, 10 * bank), -1);
            }
            for (int bank = 0; bank < 4; bank++) {
                c.same("each its own", x.setBankLimit(bank, 1000000000), 10 * bank);
            }
            c.same("the greatest", x.setBankLimit(3, -1), 1000000000);
            c.same("no limit again", x.setBankLimit(3, -1), -1);
            c.same("none still", x.setBankLimit(3, 0), -1);
        });
        doc.says("Throws `IllegalArgumentException` if bank or limit is out of range", c -> {
            c.refused("bank alone", Desks::busy, Check.ARGUMENT, x -> x.setBankLimit(4, -1));
            c.refused("limit alone", Desks::busy, Check.ARGUMENT, x -> x.setBankLimit(0, -2));
            c.refused("both", Desks::busy, Check.ARGUMENT, x -> x.setBankLimit(-1, 1000000001));
            c.refused("on an empty desk", CashPools::new, Check.ARGUMENT, x -> x.setBankLimit(4, 0));
        });
    }
}
