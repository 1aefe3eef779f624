import com.sun.management.ThreadMXBean;
import java.lang.management.ManagementFactory;

/**
 * Only the calls that add something make objects: all calls of one run live in one room. Bytes stand
 * for objects here, as they can be counted; an object has at least 16 of them.
 */
public final class RoomTest {
    private static final Check CHECK = new Check("RoomTest");
    private static final ThreadMXBean BEAN = (ThreadMXBean) ManagementFactory.getThreadMXBean();
    private static final int CALLS = 200;
    /** For what the machine itself makes now and then; an object a call would be 3200 bytes at least. */
    private static final long NOTHING = 1000;
    /** The greatest desk, of which the room holds hundreds. */
    private static final long GREATEST_DESK = 50000;

    public static void main(String[] args) {
        busyCalls(Desks.full());
        nothingIsMadeBy("forecast", x -> x.forecast(9, 60));
        nothingIsMadeBy("daysToShort", x -> x.daysToShort(9, 60));
        nothingIsMadeBy("afterSweep", x -> x.afterSweep(8));
        nothingIsMadeBy("afterSweepByMoves", x -> x.afterSweepByMoves(8));
        nothingIsMadeBy("scheduled", x -> x.scheduled(1, 37, 450));
        nothingIsMadeBy("exposure", x -> x.exposure(1));
        nothingIsMadeBy("total", x -> x.total(0));
        nothingIsMadeBy("passDays", x -> x.passDays(1));
        nothingIsMadeBy("addHoliday", x -> x.addHoliday(100));
        nothingIsMadeBy("settlementDay", x -> x.settlementDay(100));
        nothingIsMadeBy("setRule", x -> x.setRule(1, 1, 5));
        nothingIsMadeBy("book", x -> x.book(1, 5));
        nothingIsMadeBy("cancel", x -> x.cancel(1));
        greatestDesk();
        CHECK.finish();
    }

    /** Loads what is loaded at a first call. */
    private static void busyCalls(CashPools x) {
        for (int account = 0; account < x.accounts(); account++) {
            x.forecast(account, 60);
            x.afterSweep(account);
        }
        BEAN.getCurrentThreadAllocatedBytes();
    }

    private static void nothingIsMadeBy(String what, Check.Call call) {
        CashPools x = Desks.full();
        call.on(x);
        long before = BEAN.getCurrentThreadAllocatedBytes();
        for (int times = 0; times < CALLS; times++) {
            call.on(x);
        }
        long made = BEAN.getCurrentThreadAllocatedBytes() - before;
        CHECK.same(what + ": " + made + " bytes are too many", made > NOTHING ? 1 : 0, 0);
    }

    private static void greatestDesk() {
        long before = BEAN.getCurrentThreadAllocatedBytes();
        Desks.full();
        long made = BEAN.getCurrentThreadAllocatedBytes() - before;
        CHECK.same("a full desk: " + made + " bytes are too many", made > GREATEST_DESK ? 1 : 0, 0);
    }
}
