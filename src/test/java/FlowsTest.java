/** Promises 12 to 16: bookings and scheduled flows. */
public final class FlowsTest {
    private static final Check CHECK = new Check("FlowsTest");

    public static void main(String[] args) {
        book();
        scheduleRanges();
        twentyFlows();
        timesAndCancel();
        flowsWaitForSettlement();
        scheduled();
        scheduledAtTheEnd();
        CHECK.finish();
    }

    private static void book() {
        CashPools x = new CashPools();
        x.addPool(0, 0, 0);
        x.addAccount(0, 0);
        CHECK.same("book in", x.book(1, 1000000), 1000000);
        CHECK.same("book out", x.book(1, -1000000), 0);
        CHECK.same("below 0", x.book(1, -1), -1);
        CHECK.balances("booked at once", x, 0, -1);
        CHECK.refused(x, "amount 0", Check.ARGUMENT, () -> x.book(0, 0));
        CHECK.refused(x, "amount 1000001", Check.ARGUMENT, () -> x.book(0, 1000001));
        CHECK.refused(x, "amount -1000001", Check.ARGUMENT, () -> x.book(0, -1000001));
        CHECK.refused(x, "no account", Check.INDEX, () -> x.book(2, 0));
        CHECK.refused(x, "no account", Check.INDEX, () -> x.book(-1, 5));
        long due = 0;
        for (int times = 0; times < 300; times++) {
            due += 1000000;
            CHECK.same("many times", x.book(0, 1000000), due);
        }
    }

    private static void scheduleRanges() {
        CashPools x = new CashPools();
        x.addPool(0, 0, 0);
        x.passDays(3);
        CHECK.same("least", x.schedule(0, -1000000, 3, 1, 1), 0);
        CHECK.same("most", x.schedule(0, 1000000, 450, 100, 30), 1);
        CHECK.refused(x, "no account", Check.INDEX, () -> x.schedule(1, 0, 3, 1, 1));
        CHECK.refused(x, "no account", Check.INDEX, () -> x.schedule(-1, 1, 3, 1, 1));
        CHECK.refused(x, "amount 0", Check.ARGUMENT, () -> x.schedule(0, 0, 3, 1, 1));
        CHECK.refused(x, "amount 1000001", Check.ARGUMENT, () -> x.schedule(0, 1000001, 3, 1, 1));
        CHECK.refused(x, "amount -1000001", Check.ARGUMENT, () -> x.schedule(0, -1000001, 3, 1, 1));
        CHECK.refused(x, "first before today", Check.ARGUMENT, () -> x.schedule(0, 1, 2, 1, 1));
        CHECK.refused(x, "first 451", Check.ARGUMENT, () -> x.schedule(0, 1, 451, 1, 1));
        CHECK.refused(x, "step 0", Check.ARGUMENT, () -> x.schedule(0, 1, 3, 0, 1));
        CHECK.refused(x, "step 101", Check.ARGUMENT, () -> x.schedule(0, 1, 3, 101, 1));
        CHECK.refused(x, "times 0", Check.ARGUMENT, () -> x.schedule(0, 1, 3, 1, 0));
        CHECK.refused(x, "times 31", Check.ARGUMENT, () -> x.schedule(0, 1, 3, 1, 31));
        CHECK.same("timesLeft", x.timesLeft(1), 30);
    }

    private static void twentyFlows() {
        CashPools x = new CashPools();
        x.addPool(0, 0, 0);
        for (int flow = 0; flow < 20; flow++) {
            CHECK.same("schedule", x.schedule(0, 1, 0, 1, 1), flow);
        }
        x.cancel(0);
        x.passDays(1);
        CHECK.balances("19 done, one cancelled", x, 19);
        CHECK.refused(x, "21st flow", Check.STATE, () -> x.schedule(0, 1, 1, 1, 1));
        CHECK.refused(x, "argument before state", Check.ARGUMENT, () -> x.schedule(0, 1, 0, 1, 1));
        CHECK.refused(x, "index before state", Check.INDEX, () -> x.schedule(1, 1, 1, 1, 1));
    }

    private static void timesAndCancel() {
        CashPools x = new CashPools();
        x.addPool(0, 0, 0);
        x.schedule(0, 10, 1, 3, 4);
        CHECK.same("timesLeft", x.timesLeft(0), 4);
        x.passDays(1);
        CHECK.same("not due yet", x.timesLeft(0), 4);
        x.passDays(1);
        CHECK.same("one done", x.timesLeft(0), 3);
        x.passDays(3);
        CHECK.same("the second", x.timesLeft(0), 2);
        CHECK.balances("two times", x, 20);
        CHECK.same("cancel", x.cancel(0), 2);
        CHECK.same("timesLeft", x.timesLeft(0), 0);
        CHECK.same("cancel again", x.cancel(0), 0);
        x.passDays(20);
        CHECK.balances("nothing more", x, 20);
        CHECK.refused(x, "cancel(1)", Check.INDEX, () -> x.cancel(1));
        CHECK.refused(x, "cancel(-1)", Check.INDEX, () -> x.cancel(-1));
        CHECK.refused(x, "timesLeft(1)", Check.INDEX, () -> x.timesLeft(1));
        CHECK.refused(x, "timesLeft(-1)", Check.INDEX, () -> x.timesLeft(-1));
    }

    private static void flowsWaitForSettlement() {
        CashPools x = new CashPools();
        x.addPool(0, 0, 0);
        x.schedule(0, 10, 4, 1, 4);
        x.passDays(7);
        CHECK.balances("Friday's is done, Saturday's and Sunday's wait", x, 10);
        CHECK.same("timesLeft", x.timesLeft(0), 3);
        CHECK.same("those that wait are told", x.scheduled(0, 7, 7), 30);
        x.addHoliday(7);
        x.passDays(1);
        CHECK.balances("a holiday", x, 10);
        CHECK.same("three wait", x.scheduled(0, 8, 8), 30);
        x.passDays(1);
        CHECK.balances("all at once", x, 40);
        CHECK.same("timesLeft", x.timesLeft(0), 0);
        x.addHoliday(8);
        CHECK.balances("what is done stays done", x, 40);
        CHECK.same("timesLeft", x.timesLeft(0), 0);
    }

    private static void scheduled() {
        CashPools x = new CashPools();
        x.addPool(0, 0, 0);
        x.addAccount(0, 0);
        x.schedule(1, 100, 3, 1, 5);
        x.schedule(1, -7, 7, 7, 3);
        x.schedule(0, 1000, 0, 1, 30);
        CHECK.same("all", x.scheduled(1, 0, 450), 479);
        CHECK.same("both included", x.scheduled(1, 3, 7), 493);
        CHECK.same("from", x.scheduled(1, 4, 7), 393);
        CHECK.same("to", x.scheduled(1, 3, 6), 200);
        CHECK.same("a weekend", x.scheduled(1, 5, 6), 0);
        CHECK.same("nothing below it counts", x.scheduled(0, 0, 4), 5000);
        x.addHoliday(7);
        CHECK.same("as the days are known now", x.scheduled(1, 7, 7), 0);
        CHECK.same("as the days are known now", x.scheduled(1, 8, 8), 293);
        CHECK.refused(x, "no account", Check.INDEX, () -> x.scheduled(2, -1, 0));
        CHECK.refused(x, "no account", Check.INDEX, () -> x.scheduled(-1, 0, 0));
        CHECK.refused(x, "to before from", Check.ARGUMENT, () -> x.scheduled(0, 9, 8));
        CHECK.refused(x, "to 451", Check.ARGUMENT, () -> x.scheduled(0, 0, 451));
        CHECK.refused(x, "from 451", Check.ARGUMENT, () -> x.scheduled(0, 451, 451));
        x.passDays(4);
        CHECK.refused(x, "from before today", Check.ARGUMENT, () -> x.scheduled(0, 3, 9));
        CHECK.same("what is done does not count", x.scheduled(1, 4, 450), 379);
        x.cancel(0);
        CHECK.same("what is cancelled does not count", x.scheduled(1, 4, 450), -21);
    }

    private static void scheduledAtTheEnd() {
        CashPools x = new CashPools();
        x.addPool(0, 0, 0);
        x.schedule(0, 1, 450, 1, 30);
        x.schedule(0, 100, 448, 1, 1);
        CHECK.same("up to 450 only", x.scheduled(0, 440, 450), 101);
        x.addHoliday(450);
        CHECK.same("no settlement day left for it", x.scheduled(0, 440, 450), 100);
        CHECK.same("timesLeft", x.timesLeft(0), 30);
    }
}
