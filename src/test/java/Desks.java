/** Desks that tests start from; each call makes a new one. */
final class Desks {
    private Desks() {
    }

    /** Three pools (0, 3 and 5) with lines, flows and limits, on a Saturday between two bookings of interest. */
    static CashPools busy() {
        CashPools x = new CashPools();
        x.addPool(0, 300, 900);
        x.addAccount(0, 1);
        x.addAccount(1, 2);
        x.addPool(2, 1000, 1000);
        x.addAccount(3, 3);
        x.addPool(3, 0, 1000);
        x.setRule(1, 1, 20000);
        x.setRule(2, 2, 300);
        x.setRule(4, 3, -40);
        x.setFloor(0, 100);
        x.setFloor(3, -2000);
        x.addLine(0, 400000, 700);
        x.addLine(0, 100000, 700);
        x.addLine(5, 500000, 1000);
        x.setBankLimit(2, 250000);
        x.setBankLimit(3, 777777);
        x.addHoliday(9);
        x.addHoliday(35);
        x.book(3, 900000);
        x.book(5, -800000);
        x.schedule(2, 70000, 0, 3, 12);
        x.schedule(0, -95000, 2, 2, 25);
        x.schedule(4, -20001, 9, 9, 9);
        x.schedule(1, 5003, 33, 1, 30);
        x.passDays(33);
        return x;
    }

    /** 10 accounts, 6 lines and 20 flows, some of them done and some cancelled. */
    static CashPools full() {
        CashPools x = busy();
        x.addAccount(5, 0);
        x.addAccount(5, 1);
        x.addAccount(6, 2);
        x.addPool(1, 50, 60);
        x.addLine(9, 1000, 0);
        x.addLine(5, 2000, 5);
        x.addLine(0, 3000, 1000);
        for (int flow = 4; flow < 20; flow++) {
            x.schedule(flow % 10, 100 * flow - 950, 33, 2, 1 + flow % 3);
        }
        x.cancel(5);
        x.cancel(10);
        x.passDays(4);
        return x;
    }

    /** The last day that can be today: 400. */
    static CashPools last() {
        CashPools x = busy();
        for (int times = 0; times < 6; times++) {
            x.passDays(60);
        }
        x.passDays(7);
        return x;
    }

    /** An empty desk on this day. */
    static CashPools onDay(int day) {
        CashPools x = new CashPools();
        letPass(x, day);
        return x;
    }

    static void letPass(CashPools x, int days) {
        for (int left = days; left > 0; left -= 60) {
            x.passDays(Math.min(left, 60));
        }
    }

    /** One pool, all other accounts right below its top, all at bank 0; no interest. */
    static CashPools pool(long... balances) {
        return rated(0, 0, balances);
    }

    /** The same with these rates. */
    static CashPools rated(int creditRate, int debitRate, long... balances) {
        CashPools x = new CashPools();
        x.addPool(0, creditRate, debitRate);
        for (int account = 1; account < balances.length; account++) {
            x.addAccount(0, 0);
        }
        bookAll(x, balances);
        return x;
    }

    /** One pool with an account at each of these banks, all others right below the first one. */
    static CashPools atBanks(int[] banks, long... balances) {
        CashPools x = new CashPools();
        x.addPool(banks[0], 0, 0);
        for (int account = 1; account < banks.length; account++) {
            x.addAccount(0, banks[account]);
        }
        bookAll(x, balances);
        return x;
    }

    /** One pool, each account below the one before it. */
    static CashPools chain(long... balances) {
        CashPools x = new CashPools();
        x.addPool(0, 0, 0);
        for (int account = 1; account < balances.length; account++) {
            x.addAccount(account - 1, 0);
        }
        bookAll(x, balances);
        return x;
    }

    /** As many accounts as this, one below the other. */
    static CashPools accounts(int count) {
        return chain(new long[count]);
    }

    static CashPools lines(int count) {
        CashPools x = chain(0, 0);
        for (int line = 0; line < count; line++) {
            x.addLine(0, 10, 5);
        }
        return x;
    }

    static CashPools flows(int count) {
        CashPools x = pool(0);
        for (int flow = 0; flow < count; flow++) {
            x.schedule(0, 1, 0, 1, 1);
        }
        return x;
    }

    static CashPools limits(CashPools x, int... limits) {
        for (int bank = 0; bank < limits.length; bank++) {
            x.setBankLimit(bank, limits[bank]);
        }
        return x;
    }

    /** Books each of these, in several bookings where one can't hold it. */
    static void bookAll(CashPools x, long... balances) {
        for (int account = 0; account < balances.length; account++) {
            long left = balances[account];
            while (left != 0) {
                int part = (int) Math.max(-1000000, Math.min(1000000, left));
                x.book(account, part);
                left -= part;
            }
        }
    }
}
