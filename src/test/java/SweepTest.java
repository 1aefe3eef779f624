/** Promises 20, 26 and 27, and what the document says of sweeping. */
public final class SweepTest {
    private static final Check CHECK = new Check("SweepTest");

    public static void main(String[] args) {
        rules();
        childrenBeforeParents();
        parentsBeforeChildren();
        lowerNumberFirst();
        subtreesOfSiblings();
        floors();
        bothPasses();
        totals();
        wrongInputs();
        CHECK.finish();
    }

    private static CashPools pair(int rule, int target, int top, int below) {
        CashPools x = new CashPools();
        x.addPool(0, 0, 0);
        x.addAccount(0, 1);
        x.setRule(1, rule, target);
        if (top != 0) {
            x.book(0, top);
        }
        if (below != 0) {
            x.book(1, below);
        }
        return x;
    }

    private static void rules() {
        CHECK.swept("rule 0", pair(0, 10, 100, 50), 100, 50);
        CHECK.swept("rule 0", pair(0, 10, 100, -50), 100, -50);
        CHECK.swept("rule 1 gives", pair(1, 10, 100, 50), 140, 10);
        CHECK.swept("rule 1 gets", pair(1, 60, 100, 50), 90, 60);
        CHECK.swept("rule 2 gives", pair(2, 10, 100, 50), 140, 10);
        CHECK.swept("rule 2 does not get", pair(2, 60, 100, 50), 100, 50);
        CHECK.swept("rule 3 does not give", pair(3, 10, 100, 50), 100, 50);
        CHECK.swept("rule 3 gets", pair(3, 60, 100, 50), 90, 60);
        CHECK.swept("a target below 0", pair(1, -20, 100, 50), 170, -20);
        CHECK.swept("a target below 0", pair(3, -20, 100, -50), 70, -20);
        CHECK.swept("the target itself", pair(1, 50, 100, 50), 100, 50);
        CHECK.swept("the top has too little", pair(1, 60, 4, 50), 0, 54);
        CHECK.swept("the top is below 0", pair(1, 60, -4, 50), -4, 50);
        CHECK.swept("nothing moves by asking", pair(1, 10, 100, 50), 140, 10);
    }

    private static CashPools chain() {
        CashPools x = new CashPools();
        x.addPool(0, 0, 0);
        x.addAccount(0, 1);
        x.addAccount(1, 2);
        x.addAccount(2, 3);
        return x;
    }

    private static void childrenBeforeParents() {
        CashPools x = chain();
        x.setRule(1, 2, 5);
        x.setRule(2, 2, 6);
        x.setRule(3, 2, 7);
        x.book(3, 100);
        CHECK.swept("all the way up", x, 82, 5, 6, 7);
        x.setRule(2, 0, 0);
        CHECK.swept("it stays where the rule is 0", x, 0, 0, 93, 7);
    }

    private static void parentsBeforeChildren() {
        CashPools x = chain();
        x.setRule(1, 3, 20);
        x.setRule(2, 3, 15);
        x.setRule(3, 3, 10);
        x.book(0, 100);
        CHECK.swept("all the way down", x, 80, 5, 5, 10);
        x.setRule(1, 0, 0);
        CHECK.swept("nothing comes through", x, 100, 0, 0, 0);
    }

    private static CashPools star(int children) {
        CashPools x = new CashPools();
        x.addPool(0, 0, 0);
        for (int i = 0; i < children; i++) {
            x.addAccount(0, 0);
            x.setRule(i + 1, 1, 40);
        }
        return x;
    }

    private static void lowerNumberFirst() {
        CashPools x = star(9);
        x.book(0, 100);
        CHECK.swept("the lower number first", x, 0, 40, 40, 20, 0, 0, 0, 0, 0, 0);
        x.book(9, 140);
        CHECK.swept("what came up is there already", x, 0, 40, 40, 40, 40, 40, 0, 0, 0, 40);
    }

    /** The balance of the parent goes to its children alone; those below them take from these. */
    private static void subtreesOfSiblings() {
        CashPools x = star(2);
        x.addAccount(1, 0);
        x.addAccount(2, 0);
        x.addAccount(1, 0);
        x.setRule(3, 3, 25);
        x.setRule(4, 3, 25);
        x.setRule(5, 3, 25);
        x.book(0, 60);
        CHECK.swept("by the tree", x, 0, 0, 0, 25, 20, 15);
        x.passDays(1);
        CHECK.balances("for real", x, 0, 0, 0, 25, 20, 15);
    }

    private static void floors() {
        CashPools x = pair(1, 100, 70, 0);
        x.setFloor(0, 30);
        CHECK.swept("down to the floor", x, 30, 40);
        x.setFloor(0, 70);
        CHECK.swept("at the floor", x, 70, 0);
        x.setFloor(0, 71);
        CHECK.swept("below the floor", x, 70, 0);
        x.setFloor(0, -10);
        CHECK.swept("a floor below 0", x, -10, 80);
        x.setFloor(0, -1000);
        CHECK.swept("no more than what it lacks", x, -30, 100);
        x.setFloor(1, 5000);
        CHECK.swept("its own floor does not matter", x, -30, 100);
        x.setRule(1, 2, -50);
        x.setFloor(1, 0);
        CHECK.swept("a floor does not hold what is given", x, 120, -50);
    }

    private static void bothPasses() {
        CashPools x = new CashPools();
        x.addPool(0, 0, 0);
        x.addAccount(0, 1);
        x.addAccount(0, 1);
        x.addAccount(1, 2);
        x.setRule(1, 1, 100);
        x.setRule(2, 3, 50);
        x.setRule(3, 2, 0);
        x.book(3, 500);
        x.book(2, 20);
        x.book(1, -60);
        CHECK.swept("up and down", x, 310, 100, 50, 0);
        CHECK.balances("nothing moved", x, 0, -60, 20, 500);
        x.passDays(1);
        CHECK.balances("moved", x, 310, 100, 50, 0);
        CashPools two = new CashPools();
        two.addPool(0, 0, 0);
        two.addPool(0, 0, 0);
        two.addAccount(1, 0);
        two.addAccount(0, 0);
        two.setRule(2, 1, 0);
        two.setRule(3, 1, 0);
        two.book(2, 11);
        two.book(3, 13);
        CHECK.swept("each in its pool", two, 13, 11, 0, 0);
    }

    private static void totals() {
        CashPools x = chain();
        x.addAccount(1, 0);
        x.addPool(0, 0, 0);
        x.book(0, 1);
        x.book(1, 20);
        x.book(2, -300);
        x.book(3, 4000);
        x.book(4, 50000);
        x.book(5, 600000);
        CHECK.same("total(0)", x.total(0), 53721);
        CHECK.same("total(1)", x.total(1), 53720);
        CHECK.same("total(2)", x.total(2), 3700);
        CHECK.same("total(3)", x.total(3), 4000);
        CHECK.same("total(4)", x.total(4), 50000);
        CHECK.same("total(5)", x.total(5), 600000);
    }

    private static void wrongInputs() {
        CashPools x = chain();
        for (int account : new int[] {-1, 4, Integer.MAX_VALUE, Integer.MIN_VALUE}) {
            CHECK.refused(x, "total", Check.INDEX, () -> x.total(account));
            CHECK.refused(x, "afterSweep", Check.INDEX, () -> x.afterSweep(account));
            CHECK.refused(x, "afterSweepByMoves", Check.INDEX, () -> x.afterSweepByMoves(account));
        }
    }
}
