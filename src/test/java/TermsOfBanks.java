/** The part "Terms": exposures of banks, and how banks are eased. */
final class TermsOfBanks {
    private TermsOfBanks() {
    }

    static void hold(Sentences doc) {
        doc.section("Terms");
        doc.says("Banks. The exposure of a bank is the sum of all balances above 0 at it;", TermsOfBanks::exposure);
        doc.says("its excess is by how much that is above its limit,", TermsOfBanks::excess);
        doc.says("its room by how much it is below it.", TermsOfBanks::room);
        doc.says("Without a limit, as at first, a bank has no excess,", TermsOfBanks::noLimitNoExcess);
        doc.says("and its room is greater than that of any bank with a limit, and without end.",
                TermsOfBanks::roomWithoutEnd);
        doc.says("Banks are eased by moves, as long as one is possible:", TermsOfBanks::asLongAsPossible);
        doc.says("Banks are eased by moves, as long as one is possible:", TermsOfBanks::manyMoves);
        doc.says("Banks are eased by moves, as long as one is possible:", TermsOfBanks::passedOver);
        doc.says("a move goes from an account with a balance above 0 at a bank with an excess",
                TermsOfBanks::whoGives);
        doc.says("to an account of the same pool", TermsOfBanks::samePool);
        doc.says("whose balance is 0 or more,", TermsOfBanks::getterNotBelowZero);
        doc.says("at a bank with a room above 0.", TermsOfBanks::roomAboveZero);
        doc.says("Of all accounts that can give, the one at the bank with the greatest excess gives,",
                TermsOfBanks::greatestExcess);
        doc.says("of several banks the lower one,", TermsOfBanks::lowerBank);
        doc.says("at that bank the account with the greatest balance,", TermsOfBanks::greatestBalance);
        doc.says("of several the lower number. Of", TermsOfBanks::lowerGiver);
        doc.says("Of all accounts that can get it, the one at the bank with the greatest room gets it,",
                TermsOfBanks::greatestRoom);
        doc.says("of several the lower account number.", TermsOfBanks::lowerGetter);
        doc.says("The amount is the least of the excess, the balance of the giver, and the room.",
                TermsOfBanks::amount);
    }

    private static CashPools eased(CashPools x, int... limits) {
        Desks.limits(x, limits).passDays(1);
        return x;
    }

    private static void exposure(Check c) {
        CashPools x = Desks.atBanks(new int[] {0, 1, 0, 0, 1, 2}, 10, 200, 3000, -40000, -5, -1);
        x.addPool(1, 0, 0);
        x.book(6, 7);
        c.same("exposure(0)", x.exposure(0), 3010);
        c.same("of two pools", x.exposure(1), 207);
        c.same("only below 0", x.exposure(2), 0);
        c.same("no account", x.exposure(3), 0);
        x.book(0, -10);
        c.same("a balance of 0", x.exposure(0), 3000);
        x.book(0, -1);
        c.same("a balance below 0", x.exposure(0), 3000);
        x.book(0, 2);
        c.same("a balance of 1", x.exposure(0), 3001);
    }

    private static void excess(Check c) {
        int[] banks = {0, 1};
        c.balances("below the limit", eased(Desks.atBanks(banks, 100, 0), 101), 100, 0);
        c.balances("at the limit", eased(Desks.atBanks(banks, 100, 0), 100), 100, 0);
        c.balances("one above the limit", eased(Desks.atBanks(banks, 100, 0), 99), 99, 1);
        c.balances("the limit 0", eased(Desks.atBanks(banks, 100, 0), 0), 0, 100);
        c.balances("the limit 0 and nothing there", eased(Desks.atBanks(banks, 0, 0), 0), 0, 0);
    }

    private static void room(Check c) {
        int[] banks = {0, 1};
        c.balances("room of 2", eased(Desks.atBanks(banks, 100, 8), 0, 10), 98, 10);
        c.balances("room of 1", eased(Desks.atBanks(banks, 100, 9), 0, 10), 99, 10);
        c.balances("at the limit", eased(Desks.atBanks(banks, 100, 10), 0, 10), 100, 10);
        c.balances("above the limit", eased(Desks.atBanks(banks, 100, 11), 0, 10), 100, 11);
    }

    private static void noLimitNoExcess(Check c) {
        CashPools x = Desks.atBanks(new int[] {0, 1}, 300000000, 0);
        c.balances("no limit at first", eased(x), 300000000, 0);
        x.setBankLimit(0, 0);
        x.setBankLimit(0, -1);
        x.passDays(1);
        c.balances("no limit again", x, 300000000, 0);
    }

    private static void roomWithoutEnd(Check c) {
        CashPools x = Desks.atBanks(new int[] {0, 1, 2}, 1000000, 0, 5000000);
        c.balances("before the greatest limit", eased(x, 999990, 1000000000, -1), 999990, 0, 5000010);
        CashPools two = Desks.atBanks(new int[] {0, 2, 1}, 10, 70, 0);
        c.balances("of two without a limit the lower account", eased(two, 0), 0, 80, 0);
        CashPools much = Desks.atBanks(new int[] {0, 1}, 250000000, 150000000);
        c.balances("without end", eased(much, 0), 0, 400000000);
    }

    private static void asLongAsPossible(Check c) {
        CashPools x = Desks.atBanks(new int[] {0, 1, 2, 3, 0}, 300, 0, 0, 0, 50);
        c.balances("until no room is left", eased(x, 100, 80, 90, 20), 110, 80, 90, 20, 50);
        c.same("exposure(0)", x.exposure(0), 160);
        CashPools y = Desks.atBanks(new int[] {0, 0, 1}, 40, 70, 0);
        c.balances("until nothing is left to give", eased(y, 0), 0, 0, 110);
        CashPools z = Desks.atBanks(new int[] {0, 1, 2, 3}, 90, 90, 0, 0);
        c.balances("until no excess is left", eased(z, 50, 60, 35, 45), 50, 60, 30, 40);
        c.balances("no account", eased(new CashPools(), 0, 0, 0, 0));
    }

    private static void manyMoves(Check c) {
        CashPools nine = Desks.atBanks(new int[] {1, 0, 0, 0, 0, 0, 0, 0, 0, 0}, 0, 1, 2, 3, 4, 5, 6, 7, 8, 9);
        c.balances("nine givers", eased(nine, 0), 45, 0, 0, 0, 0, 0, 0, 0, 0, 0);
        CashPools eight = Desks.atBanks(new int[] {0, 0, 0, 0, 0, 0, 0, 1, 2, 3}, 10, 10, 10, 10, 10, 10, 10);
        c.balances("the last of seven gives twice", eased(eight, 0, 15, 25, 35), 0, 0, 0, 0, 0, 0, 0, 15, 25, 30);
    }

    /** The bank with the greatest excess holds an account that can't give, but others still can. */
    private static void passedOver(Check c) {
        CashPools x = Desks.atBanks(new int[] {0}, 1000);
        x.addPool(0, 0, 0);
        x.addAccount(1, 1);
        x.addPool(2, 0, 0);
        x.addAccount(3, 3);
        Desks.bookAll(x, 0, 60, 0, 90, 0);
        c.balances("those that can", eased(x, 500, -1, 50), 1000, 0, 60, 50, 40);
    }

    private static void whoGives(Check c) {
        CashPools x = Desks.atBanks(new int[] {0, 0, 0, 1}, -1, 0, 1, 0);
        c.balances("the one above 0", eased(x, 0), -1, 0, 0, 1);
        CashPools y = Desks.atBanks(new int[] {0, 1, 2}, 90, 5, 0);
        c.balances("not the greater one without an excess", eased(y, 90, 4), 90, 4, 1);
    }

    private static void samePool(Check c) {
        CashPools x = Desks.atBanks(new int[] {0, 0}, 100, 20);
        x.addPool(1, 0, 0);
        c.balances("only another pool has room", eased(x, 50), 100, 20, 0);
        CashPools y = Desks.atBanks(new int[] {0, 2}, 100, 20);
        y.addPool(1, 0, 0);
        c.balances("another pool has more room", eased(y, 50, -1, 30), 90, 30, 0);
        CashPools top = Desks.atBanks(new int[] {1, 0}, 0, 100);
        c.balances("the top gets too", eased(top, 30), 70, 30);
        CashPools deep = Desks.chain(100, 0);
        deep.addAccount(1, 1);
        c.balances("far below too", eased(deep, 30), 30, 0, 70);
    }

    private static void getterNotBelowZero(Check c) {
        int[] banks = {0, 1};
        c.balances("below 0", eased(Desks.atBanks(banks, 100, -1), 90), 100, -1);
        c.balances("0", eased(Desks.atBanks(banks, 100, 0), 90), 90, 10);
        c.balances("above 0", eased(Desks.atBanks(banks, 100, 1), 90), 90, 11);
        CashPools x = Desks.atBanks(new int[] {0, 1, 2}, 100, -1, 0);
        c.balances("more room, but below 0", eased(x, 90, -1, 4), 96, -1, 4);
    }

    private static void roomAboveZero(Check c) {
        int[] banks = {0, 1};
        c.balances("the limit 0", eased(Desks.atBanks(banks, 100, 0), 90, 0), 100, 0);
        c.balances("a room of 0", eased(Desks.atBanks(banks, 100, 20), 90, 20), 100, 20);
        c.balances("a room of 1", eased(Desks.atBanks(banks, 100, 20), 90, 21), 99, 21);
        c.balances("not at the same bank", eased(Desks.atBanks(new int[] {0, 0}, 100, 0), 90), 100, 0);
    }

    private static void greatestExcess(Check c) {
        CashPools x = Desks.atBanks(new int[] {0, 1, 2}, 100, 150, 0);
        c.balances("50 before 40", eased(x, 60, 100, 45), 100, 105, 45);
        CashPools y = Desks.atBanks(new int[] {0, 1, 2}, 101, 90, 0);
        c.balances("41 before 40", eased(y, 60, 50, 1), 100, 90, 1);
        CashPools z = Desks.atBanks(new int[] {0, 1, 2}, 900, 41, 0);
        c.balances("by the excess, not the balance", eased(z, 860, 0, 1), 900, 40, 1);
    }

    private static void lowerBank(Check c) {
        CashPools x = Desks.atBanks(new int[] {1, 0, 2}, 150, 150, 0);
        c.balances("not the lower account", eased(x, 100, 100, 30), 150, 120, 30);
        CashPools y = Desks.atBanks(new int[] {3, 1, 2}, 500, 150, 0);
        c.balances("not the greater balance", eased(y, -1, 100, 30, 450), 500, 120, 30);
    }

    private static void greatestBalance(Check c) {
        CashPools x = Desks.atBanks(new int[] {0, 0, 0, 1}, 40, 70, 69, 0);
        c.balances("70 before 69 and 40", eased(x, 160), 40, 51, 69, 19);
        CashPools y = Desks.atBanks(new int[] {0, 0, 0, 1}, 40, 69, 70, 0);
        c.balances("the higher number", eased(y, 160), 40, 69, 51, 19);
        CashPools poor = Desks.atBanks(new int[] {0}, 200);
        poor.addPool(0, 0, 0);
        poor.addAccount(1, 1);
        poor.book(1, 30);
        c.balances("the greatest of those that can", eased(poor, 210), 200, 10, 20);
    }

    private static void lowerGiver(Check c) {
        CashPools x = Desks.atBanks(new int[] {0, 0, 0, 1}, 40, 70, 70, 0);
        c.balances("70 and 70", eased(x, 160), 40, 50, 70, 20);
        CashPools y = Desks.atBanks(new int[] {0, 0, 1}, 70, 70, 0);
        c.balances("the top is the lower one", eased(y, 100), 30, 70, 40);
    }

    private static void greatestRoom(Check c) {
        int[] banks = {0, 1, 2, 3};
        CashPools x = Desks.atBanks(banks, 100, 10, 0, 30);
        c.balances("51 before 50 and 50", eased(x, 90, 60, 51, 80), 90, 10, 10, 30);
        CashPools y = Desks.atBanks(banks, 100, 0, 500, 0);
        c.balances("by the room, not the limit", eased(y, 90, 40, 530, 20), 90, 10, 500, 0);
    }

    private static void lowerGetter(Check c) {
        CashPools x = Desks.atBanks(new int[] {0, 1, 2, 3}, 100, 10, 0, 30);
        c.balances("50 and 50", eased(x, 90, 60, 49, 80), 90, 20, 0, 30);
        CashPools y = Desks.atBanks(new int[] {0, 3, 1, 3}, 100, 0, 0, 0);
        c.balances("by the account, not by the bank", eased(y, 90, 50, -1, 50), 90, 10, 0, 0);
        CashPools z = Desks.atBanks(new int[] {0, 1, 1}, 100, 0, 0);
        c.balances("two at one bank", eased(z, 90), 90, 10, 0);
    }

    private static void amount(Check c) {
        int[] banks = {0, 0, 1};
        c.balances("the excess", eased(Desks.atBanks(banks, 100, 90, 0), 180, 20), 90, 90, 10);
        c.balances("the balance, then the room", eased(Desks.atBanks(banks, 100, 90, 0), 0, 150), 0, 40, 150);
        c.balances("the room", eased(Desks.atBanks(banks, 100, 90, 0), 0, 99), 1, 90, 99);
        c.balances("all three alike", eased(Desks.atBanks(new int[] {0, 1}, 5, 0), 0, 5), 0, 5);
    }
}
