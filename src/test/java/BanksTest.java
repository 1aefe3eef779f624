/** Promises 19 and 21, and what the document says of banks and how they are eased. */
public final class BanksTest {
    private static final Check CHECK = new Check("BanksTest");

    public static void main(String[] args) {
        exposure();
        greatestExcessGives();
        greatestBalanceGives();
        greatestRoomGets();
        theTopGetsToo();
        onlyInThePool();
        whoCannotGiveIsPassedOver();
        whoCannotGet();
        severalMoves();
        noLimitNoExcess();
        wrongInputs();
        CHECK.finish();
    }

    /** One pool with an account at each of these banks, and these balances. */
    private static CashPools desk(int[] banks, int[] balances) {
        CashPools x = new CashPools();
        x.addPool(banks[0], 0, 0);
        for (int account = 1; account < banks.length; account++) {
            x.addAccount(0, banks[account]);
        }
        for (int account = 0; account < banks.length; account++) {
            if (balances[account] != 0) {
                x.book(account, balances[account]);
            }
        }
        return x;
    }

    private static void limits(CashPools x, int... limits) {
        for (int bank = 0; bank < limits.length; bank++) {
            x.setBankLimit(bank, limits[bank]);
        }
    }

    private static void exposure() {
        CashPools x = desk(new int[] {0, 1, 0, 0, 1}, new int[] {10, 200, 3000, -40000, -5});
        x.addPool(1, 0, 0);
        x.book(5, 7);
        CHECK.same("exposure(0)", x.exposure(0), 3010);
        CHECK.same("exposure(1)", x.exposure(1), 207);
        CHECK.same("exposure(2)", x.exposure(2), 0);
        x.book(0, -11);
        CHECK.same("exposure(0)", x.exposure(0), 3000);
        CHECK.balances("balance", x, -1, 200, 3000, -40000, -5, 7);
    }

    private static void greatestExcessGives() {
        CashPools x = desk(new int[] {0, 1, 2}, new int[] {100, 150, 0});
        limits(x, 60, 100, 45, 0);
        x.passDays(1);
        CHECK.balances("the greater excess", x, 100, 105, 45);
        CashPools y = desk(new int[] {1, 0, 2}, new int[] {150, 150, 0});
        limits(y, 100, 100, 30, 0);
        y.passDays(1);
        CHECK.balances("the lower bank of two alike", y, 150, 120, 30);
    }

    private static void greatestBalanceGives() {
        CashPools x = desk(new int[] {0, 0, 0, 1}, new int[] {40, 70, 70, 0});
        limits(x, 160, -1, -1, -1);
        x.passDays(1);
        CHECK.balances("the greatest balance, of two alike the lower number", x, 40, 50, 70, 20);
        CashPools y = desk(new int[] {0, 0, 1}, new int[] {40, 70, 0});
        limits(y, 0, -1, -1, -1);
        y.passDays(1);
        CHECK.balances("all of them", y, 0, 0, 110);
    }

    private static void greatestRoomGets() {
        CashPools x = desk(new int[] {0, 1, 2, 3}, new int[] {100, 10, 0, 30});
        limits(x, 90, 60, 49, 80);
        x.passDays(1);
        CHECK.balances("the lower number of rooms alike", x, 90, 20, 0, 30);
        CashPools y = desk(new int[] {0, 1, 2, 3}, new int[] {100, 10, 0, 30});
        limits(y, 90, 60, 51, 80);
        y.passDays(1);
        CHECK.balances("the greatest room", y, 90, 10, 10, 30);
        CashPools z = desk(new int[] {0, 1, 2, 3}, new int[] {100, 0, 500, 0});
        limits(z, 90, 1000000000, -1, -1);
        z.passDays(1);
        CHECK.balances("no limit is the greatest room", z, 90, 0, 510, 0);
        CashPools t = desk(new int[] {0, 3, 1, 3}, new int[] {100, 0, 0, 0});
        limits(t, 90, 50, -1, 50);
        t.passDays(1);
        CHECK.balances("by the number of the account, not of the bank", t, 90, 10, 0, 0);
    }

    private static void theTopGetsToo() {
        CashPools x = desk(new int[] {1, 0}, new int[] {0, 100});
        limits(x, 30);
        x.passDays(1);
        CHECK.balances("up to the top", x, 70, 30);
    }

    private static void onlyInThePool() {
        CashPools x = desk(new int[] {0, 0}, new int[] {100, 20});
        x.addPool(1, 0, 0);
        limits(x, 50);
        x.passDays(1);
        CHECK.balances("no other bank in the pool", x, 100, 20, 0);
        CHECK.same("exposure(0)", x.exposure(0), 120);
    }

    /** The bank with the greatest excess holds a pool that can't move; another one still can. */
    private static void whoCannotGiveIsPassedOver() {
        CashPools x = desk(new int[] {0}, new int[] {1000});
        x.addPool(0, 0, 0);
        x.addAccount(1, 1);
        x.addPool(2, 0, 0);
        x.addAccount(3, 3);
        x.book(1, 60);
        x.book(3, 90);
        limits(x, 500, -1, 50, -1);
        x.passDays(1);
        CHECK.balances("those that can", x, 1000, 0, 60, 50, 40);
    }

    private static void whoCannotGet() {
        CashPools x = desk(new int[] {0, 1, 2, 3}, new int[] {100, -1, 0, 20});
        limits(x, 90, -1, 0, 20);
        x.passDays(1);
        CHECK.balances("below 0, no room, room 0", x, 100, -1, 0, 20);
        x.book(1, 1);
        x.passDays(1);
        CHECK.balances("a balance of 0 can get", x, 90, 10, 0, 20);
    }

    private static void severalMoves() {
        CashPools x = desk(new int[] {0, 1, 2, 3, 0}, new int[] {300, 0, 0, 0, 50});
        limits(x, 100, 80, 90, 20);
        x.passDays(1);
        CHECK.balances("as long as one is possible", x, 110, 80, 90, 20, 50);
        CHECK.same("exposure(0)", x.exposure(0), 160);
    }

    private static void noLimitNoExcess() {
        CashPools x = desk(new int[] {0, 1}, new int[] {1000000, 0});
        limits(x, 1000000, 5);
        x.passDays(1);
        CHECK.balances("at the limit", x, 1000000, 0);
        x.setBankLimit(0, -1);
        x.book(0, 1000000);
        x.passDays(1);
        CHECK.balances("without a limit", x, 2000000, 0);
        x.setBankLimit(0, 0);
        x.passDays(1);
        CHECK.balances("only to the room", x, 1999995, 5);
    }

    private static void wrongInputs() {
        CashPools x = desk(new int[] {0}, new int[] {5});
        CHECK.refused(x, "exposure(4)", Check.ARGUMENT, () -> x.exposure(4));
        CHECK.refused(x, "exposure(-1)", Check.ARGUMENT, () -> x.exposure(-1));
        CHECK.refused(x, "balance(1)", Check.INDEX, () -> x.balance(1));
        CHECK.refused(x, "balance(-1)", Check.INDEX, () -> x.balance(-1));
    }
}
