/** The part "Terms": how a pool is swept. */
final class TermsOfSweeping {
    private TermsOfSweeping() {
    }

    static void hold(Sentences doc) {
        doc.section("Terms");
        doc.says("Sweeping. An account other than a top account has a rule and a target.", TermsOfSweeping::ruleAndTarget);
        doc.says("Its surplus is told by the rule: 0: always 0;", TermsOfSweeping::ruleZero);
        doc.says("1: its balance less the target, which may be below 0;", TermsOfSweeping::ruleOne);
        doc.says("2: the same, but not below 0;", TermsOfSweeping::ruleTwo);
        doc.says("3: the same, but not above 0.", TermsOfSweeping::ruleThree);
        doc.says("At first the rule is 0 and the target 0.", TermsOfSweeping::atFirst);
        doc.says("Each account has a floor, 0 at first.", TermsOfSweeping::floorAtFirst);
        doc.says("A pool is swept in two passes.", TermsOfSweeping::twoPasses);
        doc.says("In the first pass each account whose surplus is above 0 gives it to its parent,",
                TermsOfSweeping::gives);
        doc.says("children before their parents", TermsOfSweeping::childrenBeforeParents);
        doc.says("(of several children of one account the lower number first, each behind all accounts below it).",
                TermsOfSweeping::eachBehindThoseBelow);
        doc.says("In the second pass each account whose surplus is below 0 gets as much as that from its parent,",
                TermsOfSweeping::gets);
        doc.says("but no more than by which the balance of the parent is above the parent's floor;",
                TermsOfSweeping::downToTheFloor);
        doc.says("parents come before their children", TermsOfSweeping::parentsBeforeChildren);
        doc.says("(of several children of one account the lower number first, and behind each one all accounts below"
                + " it).", TermsOfSweeping::lowerNumberFirst);
        doc.says("(of several children of one account the lower number first, and behind each one all accounts below"
                + " it).", TermsOfSweeping::behindEachOneThoseBelow);
        doc.says("Surpluses are told by the balances at that moment.", TermsOfSweeping::atThatMoment);
    }

    /** A top with 100 and one account below it. */
    private static CashPools pair(int rule, int target, int below) {
        CashPools x = Desks.pool(100, below);
        x.setRule(1, rule, target);
        return x;
    }

    private static void ruleAndTarget(Check c) {
        CashPools x = Desks.pool(100, 30, 30);
        x.setRule(1, 1, 10);
        x.setRule(2, 3, 40);
        c.swept("each its own", x, 110, 10, 40);
        c.refused("not the top", () -> Desks.pool(100, 30), Check.STATE, d -> d.setRule(0, 1, 10));
    }

    private static void ruleZero(Check c) {
        c.swept("above the target", pair(0, 10, 50), 100, 50);
        c.swept("at the target", pair(0, 10, 10), 100, 10);
        c.swept("below the target", pair(0, 10, -50), 100, -50);
    }

    private static void ruleOne(Check c) {
        c.swept("one above", pair(1, 10, 11), 101, 10);
        c.swept("at the target", pair(1, 10, 10), 100, 10);
        c.swept("one below", pair(1, 10, 9), 99, 10);
        c.swept("a target below 0, one above", pair(1, -10, -9), 101, -10);
        c.swept("a target below 0, one below", pair(1, -10, -11), 99, -10);
        c.swept("the target 0", pair(1, 0, 7), 107, 0);
    }

    private static void ruleTwo(Check c) {
        c.swept("one above", pair(2, 10, 11), 101, 10);
        c.swept("at the target", pair(2, 10, 10), 100, 10);
        c.swept("one below", pair(2, 10, 9), 100, 9);
        c.swept("a target below 0, one above", pair(2, -10, -9), 101, -10);
    }

    private static void ruleThree(Check c) {
        c.swept("one above", pair(3, 10, 11), 100, 11);
        c.swept("at the target", pair(3, 10, 10), 100, 10);
        c.swept("one below", pair(3, 10, 9), 99, 10);
        c.swept("a target below 0, one below", pair(3, -10, -11), 99, -10);
    }

    private static void atFirst(Check c) {
        c.swept("nothing is given", Desks.pool(0, 900), 0, 900);
        c.swept("nothing is got", Desks.pool(900, -5), 900, -5);
        c.same("the rule", Desks.pool(0, 0).setRule(1, 1, 1), 0);
    }

    private static void floorAtFirst(Check c) {
        CashPools x = Desks.chain(10, 0, 0);
        c.same("of the top", x.setFloor(0, 0), 0);
        c.same("of the account below", x.setFloor(1, 0), 0);
        c.same("of the last account", x.setFloor(2, 0), 0);
        CashPools y = pair(3, 200, 50);
        c.swept("down to 0 at first", y, 0, 150);
    }

    /** What the higher number gives is there when the lower number gets. */
    private static void twoPasses(Check c) {
        CashPools x = Desks.pool(0, 0, 80);
        x.setRule(1, 1, 50);
        x.setRule(2, 2, 0);
        c.swept("given before it is got", x, 30, 50, 0);
        x.passDays(1);
        c.balances("on a settlement day", x, 30, 50, 0);
    }

    private static void gives(Check c) {
        CashPools x = Desks.pool(-500, 50, 20);
        x.setRule(1, 1, 49);
        x.setRule(2, 1, 20);
        c.swept("1, and nothing of a surplus of 0", x, -499, 49, 20);
        x.setFloor(1, 1000000);
        c.swept("whatever its own floor is", x, -499, 49, 20);
        x.setRule(1, 1, -1000000);
        c.swept("it may go below 0 by that", x, 999550, -1000000, 20);
    }

    private static void childrenBeforeParents(Check c) {
        CashPools x = Desks.chain(0, 0, 0, 100);
        x.setRule(1, 2, 5);
        x.setRule(2, 2, 6);
        x.setRule(3, 2, 7);
        c.swept("all the way up", x, 82, 5, 6, 7);
        x.setRule(2, 0, 0);
        c.swept("it stays where the rule is 0", x, 0, 0, 93, 7);
        CashPools deep = Desks.accounts(10);
        for (int account = 1; account < 10; account++) {
            deep.setRule(account, 2, 1);
        }
        deep.book(9, 1000);
        c.swept("through 10 levels", deep, 991, 1, 1, 1, 1, 1, 1, 1, 1, 1);
    }

    /** 1 and 2 are below the top, 4 is below 1, 3 is below 2. */
    private static void eachBehindThoseBelow(Check c) {
        CashPools x = Desks.pool(0, 0, 0);
        x.addAccount(2, 0);
        x.addAccount(1, 0);
        for (int account = 1; account < 5; account++) {
            x.setRule(account, 2, account);
        }
        Desks.bookAll(x, 0, 0, 0, 30, 40);
        c.swept("both branches to the top", x, 60, 1, 2, 3, 4);
    }

    private static void gets(Check c) {
        CashPools x = Desks.pool(100, 49, 20);
        x.setRule(1, 1, 50);
        x.setRule(2, 1, 20);
        c.swept("1, and nothing for a surplus of 0", x, 99, 50, 20);
        x.setRule(1, 1, 149);
        c.swept("all that there is", x, 0, 149, 20);
        x.setRule(1, 3, -30);
        x.book(1, -79);
        c.swept("at the target it gets nothing", x, 100, -30, 20);
        x.book(1, -1);
        c.swept("below 0 to a target below 0", x, 99, -30, 20);
    }

    private static void downToTheFloor(Check c) {
        CashPools x = pair(1, 50, 0);
        x.setFloor(0, 99);
        c.swept("one above the floor", x, 99, 1);
        x.setFloor(0, 100);
        c.swept("at the floor", x, 100, 0);
        x.setFloor(0, 101);
        c.swept("below the floor", x, 100, 0);
        x.setFloor(0, 50);
        c.swept("as much as it lacks", x, 50, 50);
        x.setFloor(0, 51);
        c.swept("one less", x, 51, 49);
        CashPools y = pair(1, 500, 0);
        y.setFloor(0, -10);
        c.swept("a floor below 0", y, -10, 110);
        y.book(0, -111);
        c.swept("below a floor below 0", y, -11, 0);
        y.setFloor(1, 1000000);
        y.book(0, 2);
        c.swept("its own floor does not matter", y, -10, 1);
    }

    private static void parentsBeforeChildren(Check c) {
        CashPools x = Desks.chain(100, 0, 0, 0);
        x.setRule(1, 3, 20);
        x.setRule(2, 3, 15);
        x.setRule(3, 3, 10);
        c.swept("all the way down", x, 80, 5, 5, 10);
        x.setRule(1, 0, 0);
        c.swept("nothing comes through", x, 100, 0, 0, 0);
        CashPools deep = Desks.accounts(10);
        for (int account = 1; account < 10; account++) {
            deep.setRule(account, 3, 1000);
        }
        deep.book(0, 7);
        c.swept("through 10 levels", deep, 0, 0, 0, 0, 0, 0, 0, 0, 0, 7);
    }

    private static CashPools star(int children, int top) {
        CashPools x = Desks.pool(new long[children + 1]);
        for (int account = 1; account <= children; account++) {
            x.setRule(account, 1, 40);
        }
        x.book(0, top);
        return x;
    }

    private static void lowerNumberFirst(Check c) {
        CashPools x = star(9, 100);
        c.swept("the lower number first", x, 0, 40, 40, 20, 0, 0, 0, 0, 0, 0);
        x.book(9, 140);
        c.swept("what came up is there already", x, 0, 40, 40, 40, 40, 40, 0, 0, 0, 40);
    }

    /** 3 and 5 are below 1, 4 is below 2: they take from these, not from the top. */
    private static void behindEachOneThoseBelow(Check c) {
        CashPools x = star(2, 60);
        x.addAccount(1, 0);
        x.addAccount(2, 0);
        x.addAccount(1, 0);
        x.setRule(3, 3, 25);
        x.setRule(4, 3, 25);
        x.setRule(5, 3, 25);
        c.swept("by the tree", x, 0, 0, 0, 25, 20, 15);
        x.passDays(1);
        c.balances("on a settlement day", x, 0, 0, 0, 25, 20, 15);
    }

    private static void atThatMoment(Check c) {
        CashPools up = Desks.chain(0, 0, 30);
        up.setRule(1, 1, 10);
        up.setRule(2, 1, 0);
        c.swept("10 too little at first, then 20 too much", up, 20, 10, 0);
        CashPools down = Desks.chain(0, 60, 0);
        down.setRule(1, 3, 50);
        down.setRule(2, 3, 30);
        down.book(0, 500);
        c.swept("enough when it came, whatever is taken then", down, 500, 30, 30);
        CashPools both = Desks.chain(0, -60, 0, 500);
        both.addAccount(0, 0);
        both.setRule(1, 1, 100);
        both.setRule(3, 2, 0);
        both.setRule(2, 2, 0);
        both.setRule(4, 3, 50);
        c.swept("up and down", both, 290, 100, 0, 0, 50);
    }
}
