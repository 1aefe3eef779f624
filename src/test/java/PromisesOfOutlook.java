/** Promises 26 to 29: what would be. */
final class PromisesOfOutlook {
    private PromisesOfOutlook() {
    }

    static void hold(Sentences doc) {
        afterSweep(doc);
        afterSweepByMoves(doc);
        forecast(doc);
        daysToShort(doc);
    }

    /** An account gets from above what those below it gave up, and gives some of it down again. */
    private static CashPools upAndDown() {
        CashPools x = Desks.chain(1000, 50, -200, 300);
        x.addAccount(0, 0);
        x.addAccount(2, 0);
        x.setRule(1, 1, 100);
        x.setRule(2, 1, 40);
        x.setRule(3, 2, 10);
        x.setRule(4, 3, 70);
        x.setRule(5, 3, 25);
        x.setFloor(2, 15);
        return x;
    }

    private static void afterSweep(Sentences doc) {
        doc.section("Promise 26");
        doc.says("Returns the balance that an account would have if its pool was swept now,", c -> {
            CashPools x = upAndDown();
            x.book(5, 20);
            long[] due = {1000 - 70, 50 + 50, -200 + 290 - 50 - 5, 300 - 290, 70, 20 + 5};
            for (int account = 0; account < due.length; account++) {
                c.same("afterSweep(" + account + ")", x.afterSweep(account), due[account]);
            }
            c.balances("nothing has moved", x, 1000, 50, -200, 300, 0, 20);
            x.passDays(1);
            c.balances("on a settlement day", x, due);
        });
        doc.says("if its pool was swept now, told along the tree: what comes up from the accounts below, what goes"
                + " up, and what comes down.", PromisesOfOutlook::alongTheTree);
        doc.says("if its pool was swept now,", PromisesOfOutlook::sweptAlone);
        doc.says("Throws `IndexOutOfBoundsException` if there is no such account", c -> {
            c.numbers(6, Desks::busy, (x, account) -> x.afterSweep(account));
            c.numbers(10, Desks::full, (x, account) -> x.afterSweep(account));
        });
    }

    private static void alongTheTree(Check c) {
        CashPools x = Desks.chain(0, 0, 90);
        x.setRule(2, 2, 30);
        c.same("what comes up", x.afterSweep(1), 60);
        x.setRule(1, 2, 10);
        c.same("what goes up", x.afterSweep(1), 10);
        c.same("what has come up to the top", x.afterSweep(0), 50);
        CashPools y = Desks.chain(100, 0, 0);
        y.setRule(1, 3, 40);
        c.same("what comes down", y.afterSweep(1), 40);
        y.setRule(2, 3, 15);
        c.same("what goes on down", y.afterSweep(1), 25);
        c.same("what has come down", y.afterSweep(2), 15);
        c.same("what is left", y.afterSweep(0), 60);
        CashPools none = Desks.pool(-7);
        c.same("a top alone", none.afterSweep(0), -7);
    }

    /** No flow, no line, no limit of a bank and no other pool comes in; weekends do not matter. */
    private static void sweptAlone(Check c) {
        CashPools x = Desks.pool(-50, 70, 0);
        x.addAccount(0, 1);
        x.addPool(0, 0, 0);
        x.addLine(0, 100, 0);
        x.setRule(1, 1, 40);
        x.schedule(1, 9, 0, 1, 1);
        x.setBankLimit(0, 0);
        c.swept("on a Monday", x, -20, 40, 0, 0, 0);
        CashPools weekend = Desks.onDay(5);
        weekend.addPool(0, 0, 0);
        weekend.addAccount(0, 0);
        weekend.setRule(1, 1, 40);
        Desks.bookAll(weekend, 60, 0);
        c.swept("on a Saturday", weekend, 20, 40);
        CashPools last = Desks.onDay(400);
        last.addPool(0, 0, 0);
        last.addAccount(0, 0);
        last.setRule(1, 1, 40);
        Desks.bookAll(last, 60, 0);
        c.swept("on the last day", last, 20, 40);
    }

    private static void afterSweepByMoves(Sentences doc) {
        doc.section("Promise 27");
        doc.says("Returns the same, told by making all moves of both passes, one after the other.", c -> {
            CashPools x = upAndDown();
            for (int account = 0; account < 6; account++) {
                c.same("the same for " + account, x.afterSweepByMoves(account), x.afterSweep(account));
            }
            c.balances("nothing has moved", x, 1000, 50, -200, 300, 0, 0);
            c.same("of an account that gets and gives", x.afterSweepByMoves(2), 90 - 50 - 25);
            CashPools full = Desks.full();
            for (int account = 0; account < 10; account++) {
                c.same("the same for " + account, full.afterSweepByMoves(account), full.afterSweep(account));
            }
        });
        doc.says("Returns the same,", c -> {
            String before = Probe.of(Desks.full());
            CashPools x = Desks.full();
            for (int account = 0; account < 10; account++) {
                x.afterSweep(account);
                x.afterSweepByMoves(account);
            }
            c.same("asking changes nothing", Probe.of(x).equals(before) ? 1 : 0, 1);
        });
        doc.says("Throws `IndexOutOfBoundsException` if there is no such account", c -> {
            c.numbers(6, Desks::busy, (x, account) -> x.afterSweepByMoves(account));
            c.numbers(10, Desks::full, (x, account) -> x.afterSweepByMoves(account));
        });
    }

    private static void forecast(Sentences doc) {
        doc.section("Promise 28");
        doc.says("Returns the balance that an account would have when some days have passed, if nothing else is"
                + " called.", PromisesOfOutlook::asItComes);
        doc.says("Returns the balance that an account would have", PromisesOfOutlook::allIsAsItWas);
        doc.says("Returns the balance that an account would have", c -> {
            CashPools x = Desks.full();
            for (int account = 0; account < 10; account++) {
                x.forecast(account, 60);
                x.daysToShort(x.poolOf(account), 60);
            }
            c.same("asking changes nothing", Probe.of(x).equals(Probe.of(Desks.full())) ? 1 : 0, 1);
        });
        doc.says("when some days have passed,", c -> {
            CashPools x = Desks.pool(0, 0);
            x.setRule(1, 2, 5);
            x.schedule(1, 10, 1, 1, 30);
            c.same("behind day 0", x.forecast(0, 1), 0);
            c.same("behind day 1", x.forecast(0, 2), 5);
            c.same("the account below", x.forecast(1, 2), 5);
            c.same("behind Friday", x.forecast(0, 5), 35);
            c.same("behind Sunday", x.forecast(0, 7), 35);
            c.same("behind Monday", x.forecast(0, 8), 65);
            c.same("behind 60 days", x.forecast(0, 60), 295);
        });
        doc.says("`days`: 1 to 60,", c -> {
            c.range(1, 60, Desks::busy, (x, days) -> x.forecast(1, days));
            CashPools x = Desks.pool(0);
            x.schedule(0, 1, 0, 1, 1);
            x.schedule(0, 20, 1, 1, 1);
            x.schedule(0, 300, 59, 1, 1);
            x.schedule(0, 4000, 60, 1, 1);
            c.same("the least", x.forecast(0, 1), 1);
            c.same("59", x.forecast(0, 59), 21);
            c.same("the greatest", x.forecast(0, 60), 321);
        });
        doc.says("also beyond the day 400", PromisesOfOutlook::beyondTheEnd);
        doc.says("Throws `IndexOutOfBoundsException` if there is no such account", c -> {
            c.numbers(6, Desks::busy, (x, account) -> x.forecast(account, 60));
            c.numbers(10, Desks::full, (x, account) -> x.forecast(account, 1));
        });
        doc.says("Throws `IllegalArgumentException` if days is out of range", c -> {
            c.refused("0", Desks::full, Check.ARGUMENT, x -> x.forecast(9, 0));
            c.refused("61", Desks::full, Check.ARGUMENT, x -> x.forecast(9, 61));
            c.refused("61 on the last day", Desks::last, Check.ARGUMENT, x -> x.forecast(0, 61));
        });
    }

    private static void asItComes(Check c) {
        for (int days = 1; days <= 60; days++) {
            CashPools x = Desks.full();
            long[] told = new long[10];
            for (int account = 0; account < told.length; account++) {
                told[account] = x.forecast(account, days);
            }
            x.passDays(days);
            c.balances("behind " + days + " days", x, told);
        }
    }

    /** Ten accounts of one pool, with interest, flows and a line that go up and down in the next 60 days. */
    private static CashPools lively() {
        CashPools x = Desks.rated(1000, 1000, -20000, 0, 0, 0, 0, 300000, 0, 0, 0, 900000);
        x.setRule(8, 1, 0);
        x.addLine(0, 500000, 1000);
        x.schedule(0, -90000, 11, 30, 2);
        x.schedule(8, 30000, 13, 9, 3);
        x.passDays(10);
        return x;
    }

    /** Days are tried one behind the other, so that one call's traces would show in the next one. */
    private static void allIsAsItWas(Check c) {
        CashPools x = lively();
        long[] told = new long[60];
        for (int days = 1; days <= 60; days++) {
            told[days - 1] = x.forecast(9, days);
            c.same("short by the cost of the line, booked in 10 days", x.daysToShort(0, days), days < 10 ? -1 : 10);
        }
        c.drawn("behind the forecasts", x, 20000);
        c.same("times left behind the forecasts", x.timesLeft(0) + x.timesLeft(1), 5);
        CashPools changed = lively();
        changed.passDays(60);
        c.same("60 days change what is drawn", changed.drawn(0) > 100000 ? 1 : 0, 1);
        c.same("60 days change the cost", changed.costOf(0) > 0 ? 1 : 0, 1);
        c.same("all is as it was", Probe.of(x).equals(Probe.of(lively())) ? 1 : 0, 1);
        for (int days = 1; days <= 60; days++) {
            CashPools y = lively();
            y.passDays(days);
            c.same("behind " + days + " days", told[days - 1], y.balance(9));
        }
    }

    /** Beyond the day 450 only weekends are no settlement days. */
    private static void beyondTheEnd(Check c) {
        CashPools x = Desks.onDay(400);
        x.addPool(0, 1000, 0);
        x.addPool(0, 0, 0);
        x.schedule(0, 180000, 400, 1, 1);
        x.schedule(1, 1, 400, 1, 30);
        x.schedule(1, 100, 450, 9, 2);
        x.addHoliday(449);
        x.addHoliday(450);
        c.same("to day 401", x.forecast(1, 1), 1);
        c.same("to day 430", x.forecast(1, 30), 30);
        c.same("interest to day 419", x.forecast(0, 19), 180000);
        c.same("interest to day 420", x.forecast(0, 20), 181000);
        c.same("interest to day 460", x.forecast(0, 60), 180000 + 1000 + 1005 + 1011);
        c.same("behind the holidays 449 and 450", x.forecast(1, 51), 30);
        c.same("behind day 451", x.forecast(1, 52), 130);
        c.same("behind day 458", x.forecast(1, 59), 130);
        c.same("behind day 459", x.forecast(1, 60), 230);
        c.same("today", x.today(), 400);
        CashPools weekend = Desks.onDay(400);
        weekend.addPool(0, 0, 0);
        weekend.schedule(0, 1, 450, 3, 2);
        c.same("day 453 is a Saturday", weekend.forecast(0, 55), 1);
        c.same("day 455 is a Monday", weekend.forecast(0, 56), 2);
        CashPools none = PromisesOfDays.allHolidays();
        none.addPool(0, 0, 0);
        none.schedule(0, 1, 0, 1, 30);
        Desks.letPass(none, 400);
        c.same("all holidays up to 450", none.forecast(0, 51), 0);
        c.same("the first settlement day is 451", none.forecast(0, 52), 30);
    }

    private static void daysToShort(Sentences doc) {
        doc.section("Promise 29");
        doc.says("Returns how many days must pass until the balance of the top account of a pool is below 0", c -> {
            CashPools x = Desks.pool(0);
            x.schedule(0, -1, 3, 1, 1);
            c.same("behind the fourth day", x.daysToShort(0, 60), 4);
            x.passDays(3);
            c.same("counted from today", x.daysToShort(0, 60), 1);
            x.book(0, 1);
            c.same("0 is not below 0", x.daysToShort(0, 60), -1);
            x.addLine(0, 1, 0);
            x.book(0, -1);
            c.same("covered by a line", x.daysToShort(0, 60), -1);
            CashPools below = Desks.pool(0, -5);
            c.same("an account below it is short", below.daysToShort(0, 60), -1);
            below.addPool(0, 0, 0);
            below.book(2, -1);
            c.same("another pool is short", below.daysToShort(0, 60), -1);
            c.same("that pool", below.daysToShort(2, 60), 1);
        });
        doc.says("for the first time behind a day,", c -> {
            CashPools x = Desks.pool(0);
            x.schedule(0, -50, 1, 1, 1);
            x.schedule(0, 80, 2, 1, 1);
            c.same("short and not any more", x.daysToShort(0, 10), 2);
            x.schedule(0, -90, 3, 1, 1);
            c.same("short twice", x.daysToShort(0, 10), 2);
            x.book(0, -5);
            c.same("short now", x.daysToShort(0, 10), 1);
            x.schedule(0, 6, 0, 1, 1);
            c.same("short now, but not behind a day", x.daysToShort(0, 10), 2);
            CashPools weekend = Desks.onDay(5);
            weekend.addPool(0, 0, 0);
            weekend.book(0, -1);
            weekend.addLine(0, 1, 0);
            c.same("on a Saturday no line covers it", weekend.daysToShort(0, 10), 1);
        });
        doc.says("if nothing else is called.", c -> {
            CashPools x = Desks.full();
            int[] told = {x.daysToShort(0, 60), x.daysToShort(3, 60), x.daysToShort(5, 60), x.daysToShort(9, 60)};
            int[] pools = {0, 3, 5, 9};
            int[] seen = {-1, -1, -1, -1};
            for (int days = 1; days <= 60; days++) {
                x.passDays(1);
                for (int i = 0; i < pools.length; i++) {
                    seen[i] = seen[i] < 0 && x.balance(pools[i]) < 0 ? days : seen[i];
                }
            }
            for (int i = 0; i < pools.length; i++) {
                c.same("pool " + pools[i], told[i], seen[i]);
            }
        });
        daysLookedAt(doc);
        doc.says("Throws `IndexOutOfBoundsException` if there is no such account", c -> {
            c.refused("0", CashPools::new, Check.INDEX, x -> x.daysToShort(0, 1));
            c.refused("-1", Desks::busy, Check.INDEX, x -> x.daysToShort(-1, 1));
            c.refused("6", Desks::busy, Check.INDEX, x -> x.daysToShort(6, 1));
            c.refused("10", Desks::full, Check.INDEX, x -> x.daysToShort(10, 60));
        });
        doc.says("Throws `IllegalArgumentException` if days is out of range", c -> {
            c.refused("0", Desks::full, Check.ARGUMENT, x -> x.daysToShort(9, 0));
            c.refused("61", Desks::full, Check.ARGUMENT, x -> x.daysToShort(9, 61));
            c.refused("61 on the last day", Desks::last, Check.ARGUMENT, x -> x.daysToShort(0, 61));
        });
        doc.says("Throws `IllegalStateException` if the account is no top account", c -> {
            for (int account : new int[] {1, 2, 4, 6, 7, 8}) {
                c.refused("account " + account, Desks::full, Check.STATE, x -> x.daysToShort(account, 1));
            }
        });
    }

    private static void daysLookedAt(Sentences doc) {
        doc.says("`pool`: the number of a top account", c -> {
            CashPools x = Desks.pool(0, 0);
            x.addPool(0, 0, 0);
            x.schedule(0, -1, 1, 1, 1);
            x.schedule(2, -1, 2, 1, 1);
            c.same("the first", x.daysToShort(0, 60), 2);
            c.same("the second", x.daysToShort(2, 60), 3);
        });
        doc.says("`days`: 1 to 60: how many days are looked at,", c -> {
            c.range(1, 60, Desks::busy, (x, days) -> x.daysToShort(3, days));
            CashPools x = Desks.pool(0);
            x.schedule(0, -1, 3, 1, 1);
            c.same("the last that is looked at", x.daysToShort(0, 4), 4);
            c.same("one less", x.daysToShort(0, 3), -1);
        });
        doc.says("also beyond the day 400", c -> {
            CashPools x = Desks.onDay(400);
            x.addPool(0, 0, 0);
            x.schedule(0, -1, 450, 1, 1);
            c.same("behind day 450", x.daysToShort(0, 60), 51);
            x.addHoliday(450);
            c.same("behind day 451", x.daysToShort(0, 60), 52);
            x.addPool(0, 0, 0);
            x.schedule(1, -1, 450, 9, 2);
            x.book(1, 1);
            c.same("behind day 459", x.daysToShort(1, 60), 60);
            c.same("a day less is looked at", x.daysToShort(1, 59), -1);
            c.same("today", x.today(), 400);
        });
        doc.says("Returns 1 to days;", c -> {
            CashPools first = Desks.pool(-1);
            c.same("1 of 1", first.daysToShort(0, 1), 1);
            c.same("1 of 60", first.daysToShort(0, 60), 1);
            CashPools last = Desks.pool(0);
            last.schedule(0, -1, 59, 1, 1);
            c.same("60 of 60", last.daysToShort(0, 60), 60);
        });
        doc.says("-1 if it is not below 0 behind any of them.", c -> {
            c.same("never", Desks.pool(0).daysToShort(0, 60), -1);
            CashPools x = Desks.pool(0);
            x.schedule(0, -1, 60, 1, 1);
            c.same("on the day behind them", x.daysToShort(0, 60), -1);
            c.same("a day of a day", Desks.pool(0).daysToShort(0, 1), -1);
        });
    }
}
