import java.util.function.IntToLongFunction;

/** All that can be asked of a desk without changing it, as a text. */
final class Snapshot {
    private Snapshot() {
    }

    static String of(CashPools desk) {
        StringBuilder text = new StringBuilder();
        text.append(desk.today()).append('/').append(desk.accounts());
        for (int day = 0; day <= 450; day++) {
            text.append(' ').append(desk.settlementDay(day));
        }
        for (int bank = 0; bank < 4; bank++) {
            text.append(" bank ").append(desk.exposure(bank));
        }
        for (int account = 0; account < desk.accounts(); account++) {
            appendAccount(text, desk, account);
        }
        appendAll(text, "drawn", desk::drawn);
        appendAll(text, "cost", desk::costOf);
        appendAll(text, "left", desk::timesLeft);
        return text.toString();
    }

    private static void appendAccount(StringBuilder text, CashPools desk, int account) {
        text.append(" account ").append(desk.poolOf(account));
        text.append(' ').append(desk.balance(account)).append(' ').append(desk.total(account));
        text.append(' ').append(desk.interestOf(account));
        text.append(' ').append(desk.afterSweep(account)).append(' ').append(desk.afterSweepByMoves(account));
        for (int days = 1; days <= 60; days += 19) {
            text.append(' ').append(desk.forecast(account, days));
        }
        text.append(' ').append(desk.scheduled(account, desk.today(), 450));
        if (desk.poolOf(account) == account) {
            text.append(' ').append(desk.poolInterest(account)).append(' ').append(desk.daysToShort(account, 60));
        }
    }

    /** Asks by rising numbers until one is refused. */
    private static void appendAll(StringBuilder text, String name, IntToLongFunction answer) {
        text.append(' ').append(name);
        for (int number = 0; number < 100; number++) {
            try {
                text.append(' ').append(answer.applyAsLong(number));
            } catch (IndexOutOfBoundsException end) {
                return;
            }
        }
    }
}
