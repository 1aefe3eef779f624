/** Promises 1 to 7, 17 and 18: a new object, pools, accounts, rules, floors, lines, limits of banks. */
public final class PoolsTest {
    private static final Check CHECK = new Check("PoolsTest");

    public static void main(String[] args) {
        newObject();
        addPool();
        addAccount();
        tenAccounts();
        setRule();
        setFloor();
        addLine();
        sixLines();
        setBankLimit();
        CHECK.finish();
    }

    private static void newObject() {
        CashPools x = new CashPools();
        CHECK.same("today", x.today(), 0);
        CHECK.same("accounts", x.accounts(), 0);
        for (int bank = 0; bank < 4; bank++) {
            CHECK.same("exposure", x.exposure(bank), 0);
        }
        CHECK.refused(x, "balance(0)", Check.INDEX, () -> x.balance(0));
        CHECK.refused(x, "drawn(0)", Check.INDEX, () -> x.drawn(0));
        CHECK.refused(x, "timesLeft(0)", Check.INDEX, () -> x.timesLeft(0));
        CHECK.same("settlementDay(0)", x.settlementDay(0), 0);
        CHECK.same("passDays on an empty desk", x.passDays(60), 60);
        CHECK.same("another object", new CashPools().today(), 0);
    }

    private static void addPool() {
        CashPools x = new CashPools();
        CHECK.same("addPool least", x.addPool(0, 0, 0), 0);
        CHECK.same("addPool most", x.addPool(3, 1000, 1000), 1);
        CHECK.same("accounts", x.accounts(), 2);
        CHECK.same("poolOf(0)", x.poolOf(0), 0);
        CHECK.same("poolOf(1)", x.poolOf(1), 1);
        CHECK.balances("new pools", x, 0, 0);
        CHECK.refused(x, "bank -1", Check.ARGUMENT, () -> x.addPool(-1, 0, 0));
        CHECK.refused(x, "bank 4", Check.ARGUMENT, () -> x.addPool(4, 0, 0));
        CHECK.refused(x, "creditRate -1", Check.ARGUMENT, () -> x.addPool(0, -1, 0));
        CHECK.refused(x, "creditRate 1001", Check.ARGUMENT, () -> x.addPool(0, 1001, 0));
        CHECK.refused(x, "debitRate -1", Check.ARGUMENT, () -> x.addPool(0, 0, -1));
        CHECK.refused(x, "debitRate 1001", Check.ARGUMENT, () -> x.addPool(0, 0, 1001));
        CHECK.refused(x, "far out", Check.ARGUMENT, () -> x.addPool(Integer.MIN_VALUE, 0, 0));
        x.book(1, 7);
        CHECK.same("the pool is at its bank", x.exposure(3), 7);
    }

    private static void addAccount() {
        CashPools x = new CashPools();
        CHECK.refused(x, "no parent yet", Check.INDEX, () -> x.addAccount(0, 9));
        x.addPool(0, 0, 0);
        x.addPool(0, 0, 0);
        CHECK.same("below 1", x.addAccount(1, 3), 2);
        CHECK.same("below 0", x.addAccount(0, 2), 3);
        CHECK.same("below 2", x.addAccount(2, 1), 4);
        CHECK.same("poolOf(2)", x.poolOf(2), 1);
        CHECK.same("poolOf(3)", x.poolOf(3), 0);
        CHECK.same("poolOf(4)", x.poolOf(4), 1);
        CHECK.refused(x, "poolOf(5)", Check.INDEX, () -> x.poolOf(5));
        CHECK.refused(x, "poolOf(-1)", Check.INDEX, () -> x.poolOf(-1));
        CHECK.refused(x, "parent 5", Check.INDEX, () -> x.addAccount(5, 0));
        CHECK.refused(x, "parent -1", Check.INDEX, () -> x.addAccount(-1, 0));
        CHECK.refused(x, "bank 4", Check.ARGUMENT, () -> x.addAccount(0, 4));
        CHECK.refused(x, "bank -1", Check.ARGUMENT, () -> x.addAccount(0, -1));
        CHECK.refused(x, "parent before bank", Check.INDEX, () -> x.addAccount(5, 4));
        CHECK.same("accounts", x.accounts(), 5);
        x.book(3, 9);
        CHECK.same("the account is at its bank", x.exposure(2), 9);
        x.book(3, 1000);
        CHECK.swept("rule 0 at first", x, 0, 0, 0, 1009, 0);
    }

    private static void tenAccounts() {
        CashPools x = new CashPools();
        x.addPool(0, 0, 0);
        for (int number = 1; number < 9; number++) {
            CHECK.same("addAccount", x.addAccount(number - 1, number % 4), number);
        }
        CHECK.same("the tenth is a pool", x.addPool(0, 0, 0), 9);
        CHECK.refused(x, "11th by addPool", Check.STATE, () -> x.addPool(0, 0, 0));
        CHECK.refused(x, "11th by addAccount", Check.STATE, () -> x.addAccount(0, 0));
        CHECK.refused(x, "argument before state", Check.ARGUMENT, () -> x.addPool(0, 0, 1001));
        CHECK.refused(x, "argument before state", Check.ARGUMENT, () -> x.addAccount(0, 4));
        CHECK.refused(x, "index before state", Check.INDEX, () -> x.addAccount(10, 0));
        CHECK.same("accounts", x.accounts(), 10);
    }

    private static void setRule() {
        CashPools x = new CashPools();
        x.addPool(0, 0, 0);
        x.addAccount(0, 0);
        CHECK.same("rule at first", x.setRule(1, 3, -1000000), 0);
        CHECK.same("rule before", x.setRule(1, 2, 1000000), 3);
        CHECK.same("rule before", x.setRule(1, 1, 5), 2);
        CHECK.refused(x, "no account", Check.INDEX, () -> x.setRule(2, 4, 0));
        CHECK.refused(x, "no account", Check.INDEX, () -> x.setRule(-1, 0, 0));
        CHECK.refused(x, "rule 4", Check.ARGUMENT, () -> x.setRule(1, 4, 0));
        CHECK.refused(x, "rule -1", Check.ARGUMENT, () -> x.setRule(1, -1, 0));
        CHECK.refused(x, "target 1000001", Check.ARGUMENT, () -> x.setRule(1, 1, 1000001));
        CHECK.refused(x, "target -1000001", Check.ARGUMENT, () -> x.setRule(1, 1, -1000001));
        CHECK.refused(x, "top account", Check.STATE, () -> x.setRule(0, 0, 0));
        CHECK.refused(x, "argument before state", Check.ARGUMENT, () -> x.setRule(0, 4, 0));
        x.book(1, 25);
        CHECK.swept("rule 1, target 5", x, 20, 5);
        CHECK.same("rule before", x.setRule(1, 0, 5), 1);
        CHECK.swept("rule 0", x, 0, 25);
    }

    private static void setFloor() {
        CashPools x = new CashPools();
        x.addPool(0, 0, 0);
        x.addAccount(0, 0);
        CHECK.same("floor at first", x.setFloor(1, 1000000), 0);
        CHECK.same("floor before", x.setFloor(1, -1000000), 1000000);
        CHECK.same("floor before", x.setFloor(1, 0), -1000000);
        CHECK.same("a top account has one too", x.setFloor(0, 30), 0);
        CHECK.refused(x, "no account", Check.INDEX, () -> x.setFloor(2, 1000001));
        CHECK.refused(x, "no account", Check.INDEX, () -> x.setFloor(-1, 0));
        CHECK.refused(x, "floor 1000001", Check.ARGUMENT, () -> x.setFloor(0, 1000001));
        CHECK.refused(x, "floor -1000001", Check.ARGUMENT, () -> x.setFloor(0, -1000001));
        x.setRule(1, 1, 50);
        x.book(0, 70);
        CHECK.swept("floor 30", x, 30, 40);
    }

    private static void addLine() {
        CashPools x = new CashPools();
        x.addPool(0, 0, 0);
        x.addAccount(0, 0);
        x.addPool(0, 0, 0);
        CHECK.same("least", x.addLine(0, 1, 0), 0);
        CHECK.same("most, of another pool", x.addLine(2, 10000000, 1000), 1);
        CHECK.same("drawn(1)", x.drawn(1), 0);
        CHECK.same("costOf(1)", x.costOf(1), 0);
        CHECK.refused(x, "no account", Check.INDEX, () -> x.addLine(3, 0, 0));
        CHECK.refused(x, "no account", Check.INDEX, () -> x.addLine(-1, 1, 0));
        CHECK.refused(x, "limit 0", Check.ARGUMENT, () -> x.addLine(0, 0, 0));
        CHECK.refused(x, "limit 10000001", Check.ARGUMENT, () -> x.addLine(0, 10000001, 0));
        CHECK.refused(x, "rate -1", Check.ARGUMENT, () -> x.addLine(0, 1, -1));
        CHECK.refused(x, "rate 1001", Check.ARGUMENT, () -> x.addLine(0, 1, 1001));
        CHECK.refused(x, "no top account", Check.STATE, () -> x.addLine(1, 1, 0));
        CHECK.refused(x, "argument before state", Check.ARGUMENT, () -> x.addLine(1, 0, 0));
        x.book(0, -5);
        x.book(2, -5);
        x.passDays(1);
        CHECK.balances("only up to the limit", x, -4, 0, 0);
        CHECK.same("drawn(0)", x.drawn(0), 1);
        CHECK.same("drawn(1)", x.drawn(1), 5);
    }

    private static void sixLines() {
        CashPools x = new CashPools();
        x.addPool(0, 0, 0);
        for (int line = 0; line < 6; line++) {
            CHECK.same("addLine", x.addLine(0, 10, 5), line);
        }
        CHECK.refused(x, "7th line", Check.STATE, () -> x.addLine(0, 10, 5));
        CHECK.refused(x, "argument before state", Check.ARGUMENT, () -> x.addLine(0, 0, 5));
        CHECK.refused(x, "index before state", Check.INDEX, () -> x.addLine(1, 10, 5));
    }

    private static void setBankLimit() {
        CashPools x = new CashPools();
        x.addPool(3, 0, 0);
        x.addAccount(0, 2);
        x.book(0, 100);
        CHECK.same("none at first", x.setBankLimit(3, 0), -1);
        CHECK.same("limit before", x.setBankLimit(3, 1000000000), 0);
        CHECK.same("limit before", x.setBankLimit(3, -1), 1000000000);
        CHECK.same("none again", x.setBankLimit(3, 60), -1);
        CHECK.same("of another bank", x.setBankLimit(0, 5), -1);
        CHECK.balances("nothing is moved by the call", x, 100, 0);
        CHECK.refused(x, "bank 4", Check.ARGUMENT, () -> x.setBankLimit(4, 0));
        CHECK.refused(x, "bank -1", Check.ARGUMENT, () -> x.setBankLimit(-1, 0));
        CHECK.refused(x, "limit -2", Check.ARGUMENT, () -> x.setBankLimit(3, -2));
        CHECK.refused(x, "limit 1000000001", Check.ARGUMENT, () -> x.setBankLimit(3, 1000000001));
        x.passDays(1);
        CHECK.balances("eased when the day passes", x, 60, 40);
    }
}
