/** Promises 12 to 16: bookings and scheduled flows. */
final class PromisesOfFlows {
    private PromisesOfFlows() {
    }

    static void hold(Sentences doc) {
        book(doc);
        schedule(doc);
        cancel(doc);
        timesLeft(doc);
        scheduled(doc);
    }

    private static void book(Sentences doc) {
        doc.section("Promise 12");
        doc.says("Books an amount on an account at once.", c -> {
            CashPools x = Desks.pool(0, 0);
            x.passDays(5);
            x.book(1, 7);
            c.balances("on a Saturday", x, 0, 7);
            x.book(1, 30);
            c.balances("added", x, 0, 37);
        });
        doc.says("`amount`: -1000000 to 1000000, not 0; above 0: it comes in", c -> {
            c.range(-1000000, 1000000, Desks::busy, (x, amount) -> x.book(1, amount));
            c.refused("0", Desks::busy, Check.ARGUMENT, x -> x.book(1, 0));
            CashPools x = Desks.pool(0);
            c.same("the least above 0", x.book(0, 1), 1);
            c.same("the greatest below 0", x.book(0, -1), 0);
            c.same("the greatest", x.book(0, 1000000), 1000000);
            c.same("the least", x.book(0, -1000000), 0);
            c.same("below 0", x.book(0, -1000000), -1000000);
        });
        doc.says("Returns the balance then.", c -> {
            CashPools x = Desks.pool(5, 60);
            c.same("of that account", x.book(1, 3), 63);
            c.same("not the amount", x.book(0, -5), 0);
            long due = 0;
            for (int times = 0; times < 500; times++) {
                due += 1000000;
                c.same("500 times the greatest", x.book(0, 1000000), due);
            }
        });
        doc.says("Throws `IndexOutOfBoundsException` if there is no such account", c -> {
            c.numbers(6, Desks::busy, (x, account) -> x.book(account, 1));
            c.numbers(10, Desks::full, (x, account) -> x.book(account, 1));
        });
        doc.says("Throws `IllegalArgumentException` if amount is out of range", c -> {
            c.refused("0 on a top", Desks::full, Check.ARGUMENT, x -> x.book(0, 0));
            c.refused("1000001", Desks::last, Check.ARGUMENT, x -> x.book(2, 1000001));
            c.refused("-1000001", Desks::last, Check.ARGUMENT, x -> x.book(2, -1000001));
        });
    }

    private static void schedule(Sentences doc) {
        doc.section("Promise 13");
        doc.says("Schedules a flow that comes several times.", c -> {
            CashPools x = Desks.pool(0, 0);
            x.schedule(1, 10, 0, 1, 3);
            c.balances("nothing is booked by the call", x, 0, 0);
            for (int times = 1; times <= 4; times++) {
                x.passDays(1);
                c.balances("behind " + times + " days", x, 0, 10 * Math.min(times, 3));
            }
        });
        amountsAndFirstDays(doc);
        stepsAndTimes(doc);
        doc.says("Returns the number of the flow, from 0.", c -> {
            for (int flows = 0; flows < 20; flows++) {
                c.same("behind " + flows, Desks.flows(flows).schedule(0, 1, 450, 1, 1), flows);
            }
            CashPools x = Desks.pool(0, 0);
            x.addPool(0, 0, 0);
            c.same("of one pool", x.schedule(1, 1, 0, 1, 1), 0);
            c.same("of another one", x.schedule(2, 1, 0, 1, 1), 1);
        });
        doc.says("Throws `IndexOutOfBoundsException` if there is no such account", c -> {
            c.numbers(6, Desks::busy, (x, account) -> x.schedule(account, 1, 450, 1, 1));
            c.numbers(0, CashPools::new, (x, account) -> x.schedule(account, 1, 450, 1, 1));
        });
        doc.says("Throws `IllegalArgumentException` if amount, first, step or times is out of range", c -> {
            c.refused("amount alone", Desks::busy, Check.ARGUMENT, x -> x.schedule(1, 0, 450, 1, 1));
            c.refused("first alone", Desks::busy, Check.ARGUMENT, x -> x.schedule(1, 1, 32, 1, 1));
            c.refused("step alone", Desks::busy, Check.ARGUMENT, x -> x.schedule(1, 1, 33, 101, 1));
            c.refused("times alone", Desks::busy, Check.ARGUMENT, x -> x.schedule(1, 1, 33, 1, 31));
            c.refused("all", Desks::busy, Check.ARGUMENT, x -> x.schedule(1, 1000001, 451, 0, 0));
        });
        doc.says("Throws `IllegalStateException` if there are 20 flows,", c -> {
            c.same("the 20th", Desks.flows(19).schedule(0, 1, 0, 1, 1), 19);
            c.refused("the 21st", () -> Desks.flows(20), Check.STATE, x -> x.schedule(0, 1, 0, 1, 1));
            c.refused("the 21st, of several accounts", Desks::full, Check.STATE, x -> x.schedule(9, 1, 37, 1, 1));
        });
        doc.says("done and cancelled ones included", c -> {
            c.refused("all done", () -> {
                CashPools x = Desks.flows(20);
                x.passDays(1);
                return x;
            }, Check.STATE, x -> x.schedule(0, 1, 1, 1, 1));
            c.refused("all cancelled", () -> {
                CashPools x = Desks.flows(20);
                for (int flow = 0; flow < 20; flow++) {
                    x.cancel(flow);
                }
                return x;
            }, Check.STATE, x -> x.schedule(0, 1, 0, 1, 1));
        });
    }

    private static void amountsAndFirstDays(Sentences doc) {
        doc.says("`amount`: -1000000 to 1000000, not 0; above 0: it comes in", c -> {
            c.range(-1000000, 1000000, Desks::busy, (x, amount) -> x.schedule(1, amount, 33, 1, 1));
            c.refused("0", Desks::busy, Check.ARGUMENT, x -> x.schedule(1, 0, 33, 1, 1));
            CashPools x = Desks.pool(0, 0, 0, 0);
            x.schedule(0, 1000000, 0, 1, 1);
            x.schedule(1, -1000000, 0, 1, 1);
            x.schedule(2, 1, 0, 1, 1);
            x.schedule(3, -1, 0, 1, 1);
            x.passDays(1);
            c.balances("it comes in or goes out", x, 1000000, -1000000, 1, -1);
        });
        doc.says("`first`: the day on which it is due for the first time, today to 450", c -> {
            c.range(33, 450, Desks::busy, (x, first) -> x.schedule(1, 1, first, 1, 1));
            c.range(0, 450, () -> Desks.pool(0), (x, first) -> x.schedule(0, 1, first, 1, 1));
            c.range(400, 450, Desks::last, (x, first) -> x.schedule(0, 1, first, 1, 1));
            CashPools x = Desks.pool(0);
            x.passDays(3);
            x.schedule(0, 1, 3, 1, 1);
            x.schedule(0, 20, 4, 1, 1);
            x.passDays(1);
            c.balances("today", x, 1);
            x.passDays(1);
            c.balances("tomorrow", x, 21);
            CashPools last = Desks.onDay(400);
            last.addPool(0, 0, 0);
            last.schedule(0, 1, 450, 1, 1);
            c.same("before 450 passes", last.forecast(0, 50), 0);
            c.same("behind 450", last.forecast(0, 51), 1);
        });
    }

    private static void stepsAndTimes(Sentences doc) {
        doc.says("`step`: days from one time to the next one, 1 to 100", c -> {
            c.range(1, 100, Desks::busy, (x, step) -> x.schedule(1, 1, 33, step, 2));
            CashPools x = Desks.pool(0, 0);
            x.schedule(0, 1, 0, 1, 2);
            x.schedule(1, 1, 0, 100, 2);
            c.same("the least: day 0", x.scheduled(0, 0, 0), 1);
            c.same("the least: day 1", x.scheduled(0, 1, 1), 1);
            c.same("the greatest: up to day 99", x.scheduled(1, 0, 99), 1);
            c.same("the greatest: day 100", x.scheduled(1, 100, 100), 1);
            Desks.letPass(x, 100);
            c.balances("behind day 99", x, 2, 1);
            x.passDays(1);
            c.balances("behind day 100", x, 2, 2);
        });
        doc.says("`times`: 1 to 30", c -> {
            c.range(1, 30, Desks::busy, (x, times) -> x.schedule(1, 1, 33, 1, times));
            CashPools x = Desks.pool(0, 0);
            x.schedule(0, 1, 0, 1, 1);
            x.schedule(1, 1000000, 0, 1, 30);
            c.same("the greatest of all", x.scheduled(1, 0, 450), 30000000);
            Desks.letPass(x, 100);
            c.balances("the least and the greatest", x, 1, 30000000);
        });
        doc.says("`times`: 1 to 30", c -> {
            CashPools x = Desks.pool(0);
            for (int flow = 0; flow < 20; flow++) {
                x.schedule(0, 1000000, 0, 1, 30);
            }
            c.same("20 flows of the greatest", x.scheduled(0, 0, 450), 600000000);
            x.passDays(40);
            c.balances("20 flows of the greatest", x, 600000000);
        });
    }

    private static void cancel(Sentences doc) {
        doc.section("Promise 14");
        doc.says("Cancels all times of a flow that are not done yet.", c -> {
            CashPools x = Desks.pool(0);
            x.schedule(0, 10, 0, 1, 4);
            x.schedule(0, 500, 2, 1, 1);
            x.passDays(1);
            x.cancel(0);
            c.balances("what is done stays", x, 10);
            c.same("timesLeft", x.timesLeft(0), 0);
            c.same("another flow's", x.timesLeft(1), 1);
            c.same("scheduled", x.scheduled(0, 1, 450), 500);
            x.passDays(20);
            c.balances("nothing more comes", x, 510);
            CashPools waiting = Desks.pool(0);
            waiting.schedule(0, 7, 5, 1, 1);
            waiting.passDays(6);
            c.same("one that waits for a settlement day", waiting.cancel(0), 1);
            waiting.passDays(3);
            c.balances("one that waits for a settlement day", waiting, 0);
        });
        doc.says("Returns how many they were.", c -> {
            CashPools x = Desks.pool(0);
            x.schedule(0, 10, 0, 1, 30);
            x.schedule(0, 10, 1, 3, 4);
            x.schedule(0, 10, 0, 1, 1);
            c.same("all", x.cancel(0), 30);
            x.passDays(2);
            c.same("all but one", x.cancel(1), 3);
            c.same("again", x.cancel(1), 0);
            c.same("a done one", x.cancel(2), 0);
        });
        doc.says("Throws `IndexOutOfBoundsException` if there is no such flow", c -> {
            c.numbers(0, () -> Desks.pool(0), (x, flow) -> x.cancel(flow));
            c.numbers(4, Desks::busy, (x, flow) -> x.cancel(flow));
            c.numbers(20, Desks::full, (x, flow) -> x.cancel(flow));
        });
    }

    private static void timesLeft(Sentences doc) {
        doc.section("Promise 15");
        doc.says("Returns how many times of a flow are not done yet.", c -> {
            CashPools x = Desks.pool(0);
            x.schedule(0, 10, 1, 3, 4);
            x.schedule(0, 10, 6, 1, 1);
            int[] due = {4, 3, 3, 3, 2, 2, 2, 1, 1, 1, 0, 0};
            for (int day = 0; day < due.length; day++) {
                x.passDays(1);
                c.same("behind day " + day, x.timesLeft(0), due[day]);
            }
            c.same("one that waited", x.timesLeft(1), 0);
            c.same("forecasts do nothing", Desks.flows(1).forecast(0, 60), 1);
        });
        doc.says("Returns how many times of a flow are not done yet.", c -> {
            CashPools x = Desks.onDay(400);
            x.addPool(0, 0, 0);
            x.schedule(0, 1, 450, 100, 30);
            c.same("far beyond the last day", x.timesLeft(0), 30);
            c.same("forecast", x.forecast(0, 60), 1);
            c.same("behind a forecast", x.timesLeft(0), 30);
            c.same("cancel", x.cancel(0), 30);
            c.same("cancelled", x.timesLeft(0), 0);
        });
        doc.says("Throws `IndexOutOfBoundsException` if there is no such flow", c -> {
            c.numbers(0, () -> Desks.pool(0), (x, flow) -> x.timesLeft(flow));
            c.numbers(4, Desks::busy, (x, flow) -> x.timesLeft(flow));
            c.numbers(20, Desks::full, (x, flow) -> x.timesLeft(flow));
        });
    }

    private static CashPools withFlows() {
        CashPools x = Desks.pool(0, 0);
        x.schedule(1, 100, 3, 1, 5);
        x.schedule(1, -7, 7, 7, 3);
        x.schedule(0, 1000, 0, 1, 30);
        return x;
    }

    private static void scheduled(Sentences doc) {
        doc.section("Promise 16");
        doc.says("Returns the sum of the scheduled flows of an account", c -> {
            CashPools x = withFlows();
            c.same("two flows", x.scheduled(1, 0, 450), 479);
            c.same("nothing of the accounts below", x.scheduled(0, 0, 450), 30000);
            c.same("no flow", Desks.pool(0).scheduled(0, 0, 450), 0);
            x.cancel(0);
            c.same("nothing that is cancelled", x.scheduled(1, 0, 450), -21);
            x.passDays(8);
            c.same("nothing that is done", x.scheduled(1, 8, 450), -14);
        });
        doc.says("that will be booked when the days from one to another pass, both included,", c -> {
            CashPools x = withFlows();
            c.same("both included", x.scheduled(1, 3, 7), 493);
            c.same("from a day later", x.scheduled(1, 4, 7), 393);
            c.same("to a day earlier", x.scheduled(1, 3, 6), 200);
            c.same("one day", x.scheduled(1, 4, 4), 100);
            c.same("before all of them", x.scheduled(1, 0, 2), 0);
            c.same("behind all of them", x.scheduled(1, 22, 450), 0);
        });
        doc.says("by the settlement days as they are known now.", PromisesOfFlows::scheduledAsKnownNow);
        doc.says("`from`: today to 450", c -> {
            c.range(33, 450, Desks::busy, (x, from) -> x.scheduled(1, from, 450));
            c.range(0, 450, () -> Desks.pool(0), (x, from) -> x.scheduled(0, from, 450));
            c.range(400, 450, Desks::last, (x, from) -> x.scheduled(0, from, 450));
            CashPools x = Desks.pool(0);
            x.schedule(0, 1, 0, 1, 30);
            x.passDays(3);
            c.same("from today", x.scheduled(0, 3, 450), 27);
        });
        doc.says("`to`: from to 450", c -> {
            c.range(33, 450, Desks::busy, (x, to) -> x.scheduled(1, 33, to));
            c.range(40, 450, Desks::busy, (x, to) -> x.scheduled(1, 40, to));
            c.range(450, 450, Desks::busy, (x, to) -> x.scheduled(1, 450, to));
            CashPools x = Desks.pool(0);
            x.schedule(0, 1, 450, 1, 30);
            x.schedule(0, 100, 448, 1, 1);
            c.same("to 450, no farther", x.scheduled(0, 440, 450), 101);
            c.same("450 alone", x.scheduled(0, 450, 450), 1);
            c.same("to 449", x.scheduled(0, 0, 449), 100);
        });
        doc.says("Throws `IndexOutOfBoundsException` if there is no such account", c -> {
            c.numbers(6, Desks::busy, (x, account) -> x.scheduled(account, 33, 450));
            c.numbers(10, Desks::full, (x, account) -> x.scheduled(account, 37, 450));
        });
        doc.says("Throws `IllegalArgumentException` if from or to is out of range", c -> {
            c.refused("from before today", Desks::busy, Check.ARGUMENT, x -> x.scheduled(0, 32, 40));
            c.refused("from beyond 450", Desks::busy, Check.ARGUMENT, x -> x.scheduled(0, 451, 451));
            c.refused("to before from", Desks::busy, Check.ARGUMENT, x -> x.scheduled(0, 40, 39));
            c.refused("to beyond 450", Desks::busy, Check.ARGUMENT, x -> x.scheduled(0, 40, 451));
        });
    }

    private static void scheduledAsKnownNow(Check c) {
        CashPools x = withFlows();
        c.same("a weekend", x.scheduled(1, 5, 6), 0);
        c.same("Monday", x.scheduled(1, 7, 7), 293);
        x.addHoliday(7);
        c.same("Monday, now a holiday", x.scheduled(1, 7, 7), 0);
        c.same("Tuesday", x.scheduled(1, 8, 8), 293);
        x.passDays(6);
        c.same("what waits already", x.scheduled(1, 6, 8), 293);
        c.same("what waits already", x.scheduled(1, 8, 8), 293);
        x.addHoliday(3);
        c.same("a holiday that is gone", x.scheduled(1, 6, 450), 279);
        CashPools end = Desks.pool(0);
        end.schedule(0, 1, 449, 1, 2);
        end.addHoliday(450);
        c.same("no settlement day up to 450 is left for one", end.scheduled(0, 0, 450), 1);
        end.addHoliday(449);
        c.same("nor for the other one", end.scheduled(0, 0, 450), 0);
        CashPools none = PromisesOfDays.allHolidays();
        none.addPool(0, 0, 0);
        none.schedule(0, 1, 0, 1, 30);
        c.same("no settlement day at all", none.scheduled(0, 0, 450), 0);
        none.passDays(60);
        c.balances("no settlement day at all", none, 0);
        c.same("all wait", none.timesLeft(0), 30);
    }
}
