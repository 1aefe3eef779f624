import java.util.List;
import java.util.function.Supplier;

/** The part "Terms": calls that throw. The promises' own tests have more of them, one for each row. */
final class TermsOfRefusals {
    private record Refusal(String what, Class<? extends RuntimeException> due, Check.Call call) {
    }

    private TermsOfRefusals() {
    }

    static void hold(Sentences doc) {
        doc.section("Terms");
        doc.says("When a call throws, nothing has changed;", TermsOfRefusals::nothingChanges);
        doc.says("When a call throws, nothing has changed;", TermsOfRefusals::oneAfterTheOther);
        doc.says("of several exceptions it is the first one of the throws clause.", TermsOfRefusals::firstOfSeveral);
    }

    /** Each call with one argument wrong and all others as they would be allowed, on the full desk. */
    private static List<Refusal> refusals() {
        return List.of(
                new Refusal("addPool", Check.STATE, x -> x.addPool(1, 2, 3)),
                new Refusal("addAccount", Check.STATE, x -> x.addAccount(1, 2)),
                new Refusal("setRule, account", Check.INDEX, x -> x.setRule(10, 2, 5)),
                new Refusal("setRule, rule", Check.ARGUMENT, x -> x.setRule(1, 4, 5)),
                new Refusal("setRule, target", Check.ARGUMENT, x -> x.setRule(1, 2, 1000001)),
                new Refusal("setRule, top", Check.STATE, x -> x.setRule(3, 2, 5)),
                new Refusal("setFloor", Check.ARGUMENT, x -> x.setFloor(3, -1000001)),
                new Refusal("addLine", Check.STATE, x -> x.addLine(3, 10000, 0)),
                new Refusal("setBankLimit, limit", Check.ARGUMENT, x -> x.setBankLimit(0, -2)),
                new Refusal("setBankLimit, bank", Check.ARGUMENT, x -> x.setBankLimit(4, 0)),
                new Refusal("addHoliday", Check.ARGUMENT, x -> x.addHoliday(451)),
                new Refusal("settlementDay", Check.ARGUMENT, x -> x.settlementDay(451)),
                new Refusal("passDays", Check.ARGUMENT, x -> x.passDays(61)),
                new Refusal("book", Check.ARGUMENT, x -> x.book(3, 1000001)),
                new Refusal("schedule", Check.STATE, x -> x.schedule(3, 1, 37, 1, 1)),
                new Refusal("cancel", Check.INDEX, x -> x.cancel(20)),
                new Refusal("timesLeft", Check.INDEX, x -> x.timesLeft(20)),
                new Refusal("scheduled", Check.ARGUMENT, x -> x.scheduled(3, 37, 451)),
                new Refusal("poolOf", Check.INDEX, x -> x.poolOf(10)),
                new Refusal("balance", Check.INDEX, x -> x.balance(10)),
                new Refusal("total", Check.INDEX, x -> x.total(10)),
                new Refusal("exposure", Check.ARGUMENT, x -> x.exposure(4)),
                new Refusal("drawn", Check.INDEX, x -> x.drawn(6)),
                new Refusal("costOf", Check.INDEX, x -> x.costOf(6)),
                new Refusal("interestOf", Check.INDEX, x -> x.interestOf(10)),
                new Refusal("poolInterest", Check.STATE, x -> x.poolInterest(1)),
                new Refusal("afterSweep", Check.INDEX, x -> x.afterSweep(10)),
                new Refusal("afterSweepByMoves", Check.INDEX, x -> x.afterSweepByMoves(10)),
                new Refusal("forecast", Check.ARGUMENT, x -> x.forecast(1, 61)),
                new Refusal("daysToShort", Check.STATE, x -> x.daysToShort(1, 60)));
    }

    private static void nothingChanges(Check c) {
        for (Refusal refusal : refusals()) {
            c.refused(refusal.what(), Desks::full, refusal.due(), refusal.call());
        }
        c.refused("passDays beyond 400", Desks::last, Check.STATE, x -> x.passDays(1));
    }

    /** All of them on one desk leave it as a desk that never heard them. */
    private static void oneAfterTheOther(Check c) {
        CashPools x = Desks.full();
        for (Refusal refusal : refusals()) {
            try {
                refusal.call().on(x);
                c.tell(refusal.what() + " was not refused");
            } catch (RuntimeException due) {
                c.same(refusal.what() + ": as due", due.getClass() == refusal.due() ? 1 : 0, 1);
            }
        }
        c.same("the same as without them", Probe.of(x).equals(Probe.of(Desks.full())) ? 1 : 0, 1);
    }

    private static void firstOfSeveral(Check c) {
        Supplier<CashPools> full = Desks::full;
        c.refused("addPool: argument, state", full, Check.ARGUMENT, x -> x.addPool(4, 0, 0));
        c.refused("addPool: argument, state", full, Check.ARGUMENT, x -> x.addPool(0, 1001, 0));
        c.refused("addPool: argument, state", full, Check.ARGUMENT, x -> x.addPool(0, 0, 1001));
        c.refused("addAccount: index, argument, state", full, Check.INDEX, x -> x.addAccount(10, 4));
        c.refused("addAccount: index, state", full, Check.INDEX, x -> x.addAccount(10, 0));
        c.refused("addAccount: argument, state", full, Check.ARGUMENT, x -> x.addAccount(0, 4));
        c.refused("setRule: index, argument", full, Check.INDEX, x -> x.setRule(10, 4, 0));
        c.refused("setRule: index, argument", full, Check.INDEX, x -> x.setRule(-1, 0, 1000001));
        c.refused("setRule: argument, state", full, Check.ARGUMENT, x -> x.setRule(0, 4, 0));
        c.refused("setRule: argument, state", full, Check.ARGUMENT, x -> x.setRule(0, 0, 1000001));
        c.refused("setFloor: index, argument", full, Check.INDEX, x -> x.setFloor(10, 1000001));
        c.refused("addLine: index, argument, state", full, Check.INDEX, x -> x.addLine(10, 0, 0));
        c.refused("addLine: index, state", full, Check.INDEX, x -> x.addLine(10, 1, 0));
        c.refused("addLine: argument, state (6 lines)", full, Check.ARGUMENT, x -> x.addLine(0, 0, 0));
        c.refused("addLine: argument, state (6 lines)", full, Check.ARGUMENT, x -> x.addLine(0, 1, 1001));
        c.refused("addLine: argument, state (no top)", Desks::busy, Check.ARGUMENT, x -> x.addLine(1, 0, 0));
        c.refused("addLine: argument, state (no top)", Desks::busy, Check.ARGUMENT, x -> x.addLine(1, 1, -1));
        c.refused("addLine: argument, state (both)", full, Check.ARGUMENT, x -> x.addLine(1, 0, 0));
        c.refused("passDays: argument, state", Desks::last, Check.ARGUMENT, x -> x.passDays(61));
        c.refused("book: index, argument", full, Check.INDEX, x -> x.book(10, 0));
        firstOfSeveralFlows(c, full);
        c.refused("forecast: index, argument", full, Check.INDEX, x -> x.forecast(10, 0));
        c.refused("daysToShort: index, argument", full, Check.INDEX, x -> x.daysToShort(10, 0));
        c.refused("daysToShort: argument, state", full, Check.ARGUMENT, x -> x.daysToShort(1, 0));
        c.refused("daysToShort: argument, state", full, Check.ARGUMENT, x -> x.daysToShort(1, 61));
    }

    /** The full desk's today is 37. */
    private static void firstOfSeveralFlows(Check c, Supplier<CashPools> full) {
        c.refused("schedule: index, argument, state", full, Check.INDEX, x -> x.schedule(10, 0, 37, 1, 1));
        c.refused("schedule: index, state", full, Check.INDEX, x -> x.schedule(10, 1, 37, 1, 1));
        c.refused("schedule: argument, state", full, Check.ARGUMENT, x -> x.schedule(0, 0, 37, 1, 1));
        c.refused("schedule: argument, state", full, Check.ARGUMENT, x -> x.schedule(0, 1, 36, 1, 1));
        c.refused("schedule: argument, state", full, Check.ARGUMENT, x -> x.schedule(0, 1, 37, 0, 1));
        c.refused("schedule: argument, state", full, Check.ARGUMENT, x -> x.schedule(0, 1, 37, 1, 0));
        c.refused("scheduled: index, argument", full, Check.INDEX, x -> x.scheduled(10, 36, 37));
        c.refused("scheduled: index, argument", full, Check.INDEX, x -> x.scheduled(10, 37, 451));
    }
}
