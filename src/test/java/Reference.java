import java.math.BigInteger;
import java.util.ArrayList;
import java.util.List;

/**
 * The document once more, in the slowest and most literal form, to compare the program with. It
 * copies itself for what would be, simulates for what will be booked, and tries all pairs of accounts
 * when it eases the banks. Calls that the document refuses answer null here.
 */
final class Reference {
    private static final class Acc {
        int parent;
        int bank;
        int rule;
        int target;
        int floor;
        long balance;
        long interest;
        long creditWeight;
        long debitWeight;
        int creditRate;
        int debitRate;
        BigInteger creditSum = BigInteger.ZERO;
        BigInteger debitSum = BigInteger.ZERO;
        long poolInterest;
    }

    private static final class Credit {
        int pool;
        int limit;
        int rate;
        long drawn;
        long cost;
        BigInteger sum = BigInteger.ZERO;
    }

    private static final class Time {
        int flow;
        int account;
        int amount;
        int due;
    }

    private static final BigInteger YEAR = BigInteger.valueOf(3600000);

    private final List<Acc> accs = new ArrayList<>();
    private final List<Credit> credits = new ArrayList<>();
    private final List<Time> times = new ArrayList<>();
    private final boolean[] holiday = new boolean[451];
    private final int[] limits = {-1, -1, -1, -1};
    private int flows;
    private int today;

    private Reference copy() {
        Reference c = new Reference();
        for (Acc a : accs) {
            Acc b = new Acc();
            b.parent = a.parent;
            b.bank = a.bank;
            b.rule = a.rule;
            b.target = a.target;
            b.floor = a.floor;
            b.balance = a.balance;
            b.interest = a.interest;
            b.creditWeight = a.creditWeight;
            b.debitWeight = a.debitWeight;
            b.creditRate = a.creditRate;
            b.debitRate = a.debitRate;
            b.creditSum = a.creditSum;
            b.debitSum = a.debitSum;
            b.poolInterest = a.poolInterest;
            c.accs.add(b);
        }
        for (Credit a : credits) {
            Credit b = new Credit();
            b.pool = a.pool;
            b.limit = a.limit;
            b.rate = a.rate;
            b.drawn = a.drawn;
            b.cost = a.cost;
            b.sum = a.sum;
            c.credits.add(b);
        }
        c.times.addAll(times);
        System.arraycopy(holiday, 0, c.holiday, 0, 451);
        System.arraycopy(limits, 0, c.limits, 0, 4);
        c.flows = flows;
        c.today = today;
        return c;
    }

    private static final int INDEX = 1;
    private static final int ARGUMENT = 2;
    private static final int STATE = 3;

    /** The answer of a call as a text, or the name of the exception that it throws. */
    String answer(String call, int[] a) {
        int refusal = refusal(call, a);
        switch (refusal) {
            case INDEX:
                return "IndexOutOfBoundsException";
            case ARGUMENT:
                return "IllegalArgumentException";
            case STATE:
                return "IllegalStateException";
            default:
                return Long.toString(allowed(call, a));
        }
    }

    private boolean account(int number) {
        return number >= 0 && number < accs.size();
    }

    private boolean top(int number) {
        return accs.get(number).parent < 0;
    }

    private static boolean out(int value, int low, int high) {
        return value < low || value > high;
    }

    private static boolean amount(int value) {
        return value != 0 && !out(value, -1000000, 1000000);
    }

    private static int first(boolean index, boolean argument, boolean state) {
        return index ? INDEX : argument ? ARGUMENT : state ? STATE : 0;
    }

    private int refusal(String call, int[] a) {
        boolean noAccount = a.length == 0 || !account(a[0]);
        switch (call) {
            case "addPool":
                return first(false, out(a[0], 0, 3) || out(a[1], 0, 1000) || out(a[2], 0, 1000),
                        accs.size() == 10);
            case "addAccount":
                return first(noAccount, out(a[1], 0, 3), accs.size() == 10);
            case "setRule":
                return first(noAccount, out(a[1], 0, 3) || out(a[2], -1000000, 1000000),
                        !noAccount && top(a[0]));
            case "setFloor":
                return first(noAccount, out(a[1], -1000000, 1000000), false);
            case "addLine":
                return first(noAccount, out(a[1], 1, 10000000) || out(a[2], 0, 1000),
                        !noAccount && !top(a[0]) || credits.size() == 6);
            case "setBankLimit":
                return first(false, out(a[0], 0, 3) || out(a[1], -1, 1000000000), false);
            case "addHoliday":
            case "settlementDay":
                return first(false, out(a[0], 0, 450), false);
            case "passDays":
                return first(false, out(a[0], 1, 60), today + a[0] > 400);
            case "book":
                return first(noAccount, !amount(a[1]), false);
            case "schedule":
                return first(noAccount, !amount(a[1]) || out(a[2], today, 450) || out(a[3], 1, 100)
                        || out(a[4], 1, 30), flows == 20);
            case "cancel":
            case "timesLeft":
                return first(a[0] < 0 || a[0] >= flows, false, false);
            case "scheduled":
                return first(noAccount, out(a[1], today, 450) || out(a[2], a[1], 450), false);
            case "exposure":
                return first(false, out(a[0], 0, 3), false);
            case "drawn":
            case "costOf":
                return first(a[0] < 0 || a[0] >= credits.size(), false, false);
            case "poolInterest":
                return first(noAccount, false, !noAccount && !top(a[0]));
            case "forecast":
                return first(noAccount, out(a[1], 1, 60), false);
            case "daysToShort":
                return first(noAccount, out(a[1], 1, 60), !noAccount && !top(a[0]));
            case "today":
            case "accounts":
                return 0;
            default:
                return first(noAccount, false, false);
        }
    }

    private long allowed(String call, int[] a) {
        switch (call) {
            case "addPool":
            case "addAccount":
            case "setRule":
            case "setFloor":
            case "addLine":
            case "setBankLimit":
            case "addHoliday":
            case "passDays":
            case "book":
            case "schedule":
            case "cancel":
                return change(call, a);
            default:
                return ask(call, a);
        }
    }

    private long change(String call, int[] a) {
        long before;
        switch (call) {
            case "addPool":
                addAcc(-1, a[0]);
                accs.get(accs.size() - 1).creditRate = a[1];
                accs.get(accs.size() - 1).debitRate = a[2];
                return accs.size() - 1;
            case "addAccount":
                addAcc(a[0], a[1]);
                return accs.size() - 1;
            case "setRule":
                before = accs.get(a[0]).rule;
                accs.get(a[0]).rule = a[1];
                accs.get(a[0]).target = a[2];
                return before;
            case "setFloor":
                before = accs.get(a[0]).floor;
                accs.get(a[0]).floor = a[1];
                return before;
            case "addLine":
                Credit added = new Credit();
                added.pool = a[0];
                added.limit = a[1];
                added.rate = a[2];
                credits.add(added);
                return credits.size() - 1;
            case "setBankLimit":
                before = limits[a[0]];
                limits[a[0]] = a[1];
                return before;
            case "addHoliday":
                holiday[a[0]] = true;
                long count = 0;
                for (int day = 0; day <= 450; day++) {
                    count += settlement(day) ? 1 : 0;
                }
                return count;
            case "passDays":
                pass(a[0]);
                return today;
            case "book":
                accs.get(a[0]).balance += a[1];
                return accs.get(a[0]).balance;
            case "schedule":
                for (int i = 0; i < a[4]; i++) {
                    Time time = new Time();
                    time.flow = flows;
                    time.account = a[0];
                    time.amount = a[1];
                    time.due = a[2] + i * a[3];
                    times.add(time);
                }
                return flows++;
            default:
                long left = times.stream().filter(t -> t.flow == a[0]).count();
                times.removeIf(t -> t.flow == a[0]);
                return left;
        }
    }

    private void addAcc(int parent, int bank) {
        Acc added = new Acc();
        added.parent = parent;
        added.bank = bank;
        accs.add(added);
    }

    private long ask(String call, int[] a) {
        Reference copy = copy();
        switch (call) {
            case "today":
                return today;
            case "accounts":
                return accs.size();
            case "settlementDay":
                int day = a[0];
                while (day <= 450 && !settlement(day)) {
                    day++;
                }
                return day <= 450 ? day : -1;
            case "timesLeft":
                return times.stream().filter(t -> t.flow == a[0]).count();
            case "scheduled":
                copy.pass(a[1] - today);
                List<Time> open = new ArrayList<>(copy.times);
                copy.pass(a[2] - a[1] + 1);
                open.removeAll(copy.times);
                return open.stream().filter(t -> t.account == a[0]).mapToLong(t -> t.amount).sum();
            case "poolOf":
                return poolOf(a[0]);
            case "balance":
                return accs.get(a[0]).balance;
            case "total":
                long sum = 0;
                for (int i = 0; i < accs.size(); i++) {
                    sum += isBelow(i, a[0]) ? accs.get(i).balance : 0;
                }
                return sum;
            case "exposure":
                return exposed(a[0]);
            case "drawn":
                return credits.get(a[0]).drawn;
            case "costOf":
                return credits.get(a[0]).cost;
            case "interestOf":
                return accs.get(a[0]).interest;
            case "poolInterest":
                return accs.get(a[0]).poolInterest;
            case "afterSweep":
            case "afterSweepByMoves":
                copy.sweep(poolOf(a[0]));
                return copy.accs.get(a[0]).balance;
            case "forecast":
                copy.pass(a[1]);
                return copy.accs.get(a[0]).balance;
            case "daysToShort":
                for (int days = 1; days <= a[1]; days++) {
                    copy.pass(1);
                    if (copy.accs.get(a[0]).balance < 0) {
                        return days;
                    }
                }
                return -1;
            default:
                throw new AssertionError(call);
        }
    }

    private int poolOf(int account) {
        int top = account;
        while (accs.get(top).parent >= 0) {
            top = accs.get(top).parent;
        }
        return top;
    }

    private boolean isBelow(int account, int above) {
        int at = account;
        while (at >= 0 && at != above) {
            at = accs.get(at).parent;
        }
        return at == above;
    }

    private boolean settlement(int day) {
        return day % 7 != 5 && day % 7 != 6 && !(day <= 450 && holiday[day]);
    }

    private void pass(int days) {
        for (int i = 0; i < days; i++) {
            if (settlement(today)) {
                settle();
            }
            accrue();
            if ((today + 1) % 20 == 0) {
                for (int pool = 0; pool < accs.size(); pool++) {
                    if (top(pool)) {
                        bookInterest(pool);
                    }
                }
                for (Credit line : credits) {
                    long whole = line.sum.divide(YEAR).longValueExact();
                    line.sum = line.sum.mod(YEAR);
                    line.cost += whole;
                    accs.get(line.pool).balance -= whole;
                }
            }
            today++;
        }
    }

    private void settle() {
        for (Time time : new ArrayList<>(times)) {
            if (time.due <= today) {
                accs.get(time.account).balance += time.amount;
                times.remove(time);
            }
        }
        for (int pool = 0; pool < accs.size(); pool++) {
            if (top(pool)) {
                sweep(pool);
            }
        }
        for (int pool = 0; pool < accs.size(); pool++) {
            if (top(pool)) {
                cover(pool);
            }
        }
        ease();
    }

    private List<Integer> order(int account, boolean childrenFirst) {
        List<Integer> order = new ArrayList<>();
        if (!childrenFirst) {
            order.add(account);
        }
        for (int i = 0; i < accs.size(); i++) {
            if (accs.get(i).parent == account) {
                order.addAll(order(i, childrenFirst));
            }
        }
        if (childrenFirst) {
            order.add(account);
        }
        return order;
    }

    private long surplus(Acc a) {
        long over = a.balance - a.target;
        return a.rule == 1 || a.rule == 2 && over > 0 || a.rule == 3 && over < 0 ? over : 0;
    }

    private void sweep(int pool) {
        for (int i : order(pool, true)) {
            Acc a = accs.get(i);
            if (a.parent >= 0 && surplus(a) > 0) {
                long gift = surplus(a);
                a.balance -= gift;
                accs.get(a.parent).balance += gift;
            }
        }
        for (int i : order(pool, false)) {
            Acc a = accs.get(i);
            if (a.parent >= 0 && surplus(a) < 0) {
                Acc p = accs.get(a.parent);
                long gift = -surplus(a);
                if (gift > p.balance - p.floor) {
                    gift = p.balance > p.floor ? p.balance - p.floor : 0;
                }
                a.balance += gift;
                p.balance -= gift;
            }
        }
    }

    private void cover(int pool) {
        Acc top = accs.get(pool);
        if (top.balance < 0) {
            for (int rate = 0; rate <= 1000; rate++) {
                for (Credit line : credits) {
                    if (line.pool == pool && line.rate == rate) {
                        long taken = Math.min(-top.balance, line.limit - line.drawn);
                        line.drawn += taken;
                        top.balance += taken;
                    }
                }
            }
        } else {
            for (int rate = 1000; rate >= 0; rate--) {
                for (int i = credits.size() - 1; i >= 0; i--) {
                    Credit line = credits.get(i);
                    if (line.pool == pool && line.rate == rate) {
                        long paid = Math.min(top.balance, line.drawn);
                        line.drawn -= paid;
                        top.balance -= paid;
                    }
                }
            }
        }
    }

    private long exposed(int bank) {
        return accs.stream().filter(a -> a.bank == bank && a.balance > 0).mapToLong(a -> a.balance).sum();
    }

    private long excess(int bank) {
        return limits[bank] < 0 ? 0 : Math.max(0, exposed(bank) - limits[bank]);
    }

    private long room(int bank) {
        return limits[bank] < 0 ? Long.MAX_VALUE : Math.max(0, limits[bank] - exposed(bank));
    }

    private void ease() {
        while (true) {
            int from = -1;
            int to = -1;
            for (int g = 0; g < accs.size(); g++) {
                for (int r = 0; r < accs.size(); r++) {
                    if (possible(g, r) && (from < 0 || better(g, r, from, to))) {
                        from = g;
                        to = r;
                    }
                }
            }
            if (from < 0) {
                return;
            }
            Acc giver = accs.get(from);
            Acc getter = accs.get(to);
            long moved = Math.min(giver.balance, Math.min(excess(giver.bank), room(getter.bank)));
            giver.balance -= moved;
            getter.balance += moved;
        }
    }

    private boolean possible(int g, int r) {
        Acc giver = accs.get(g);
        Acc getter = accs.get(r);
        return giver.balance > 0 && excess(giver.bank) > 0 && poolOf(g) == poolOf(r)
                && getter.balance >= 0 && room(getter.bank) > 0;
    }

    private boolean better(int g, int r, int bestG, int bestR) {
        Acc a = accs.get(g);
        Acc b = accs.get(bestG);
        long[] one = {excess(a.bank), -a.bank, a.balance, -g, room(accs.get(r).bank), -r};
        long[] two = {excess(b.bank), -b.bank, b.balance, -bestG, room(accs.get(bestR).bank), -bestR};
        for (int i = 0; i < one.length; i++) {
            if (one[i] != two[i]) {
                return one[i] > two[i];
            }
        }
        return false;
    }

    private void accrue() {
        for (int pool = 0; pool < accs.size(); pool++) {
            if (!top(pool)) {
                continue;
            }
            Acc top = accs.get(pool);
            List<Integer> members = order(pool, false);
            long t = members.stream().mapToLong(i -> accs.get(i).balance).sum();
            if (t > 0) {
                top.creditSum = top.creditSum.add(BigInteger.valueOf(t).multiply(BigInteger.valueOf(top.creditRate)));
                members.forEach(i -> accs.get(i).creditWeight += Math.max(0, accs.get(i).balance));
            } else if (t < 0) {
                top.debitSum = top.debitSum.add(BigInteger.valueOf(-t).multiply(BigInteger.valueOf(top.debitRate)));
                members.forEach(i -> accs.get(i).debitWeight += Math.max(0, -accs.get(i).balance));
            }
        }
        for (Credit line : credits) {
            line.sum = line.sum.add(BigInteger.valueOf(line.drawn * line.rate));
        }
    }

    private void bookInterest(int pool) {
        Acc top = accs.get(pool);
        List<Integer> members = order(pool, false);
        members.sort(null);
        List<Long> weights = new ArrayList<>();
        members.forEach(i -> weights.add(accs.get(i).creditWeight));
        give(members, split(top.creditSum.divide(YEAR), weights), 1);
        weights.clear();
        members.forEach(i -> weights.add(accs.get(i).debitWeight));
        give(members, split(top.debitSum.divide(YEAR), weights), -1);
        top.poolInterest += top.creditSum.divide(YEAR).subtract(top.debitSum.divide(YEAR)).longValueExact();
        top.creditSum = top.creditSum.mod(YEAR);
        top.debitSum = top.debitSum.mod(YEAR);
        for (int i : members) {
            accs.get(i).creditWeight = 0;
            accs.get(i).debitWeight = 0;
        }
    }

    private void give(List<Integer> members, List<Long> shares, int sign) {
        for (int i = 0; i < members.size(); i++) {
            accs.get(members.get(i)).balance += sign * shares.get(i);
            accs.get(members.get(i)).interest += sign * shares.get(i);
        }
    }

    private static List<Long> split(BigInteger amount, List<Long> weights) {
        BigInteger sum = BigInteger.ZERO;
        for (long weight : weights) {
            sum = sum.add(BigInteger.valueOf(weight));
        }
        List<Long> shares = new ArrayList<>();
        List<BigInteger> remainders = new ArrayList<>();
        BigInteger left = amount;
        for (long weight : weights) {
            BigInteger[] parts = sum.signum() == 0 ? new BigInteger[] {BigInteger.ZERO, BigInteger.ZERO}
                    : amount.multiply(BigInteger.valueOf(weight)).divideAndRemainder(sum);
            shares.add(parts[0].longValueExact());
            remainders.add(parts[1]);
            left = left.subtract(parts[0]);
        }
        List<Integer> order = new ArrayList<>();
        for (int i = 0; i < weights.size(); i++) {
            order.add(i);
        }
        order.sort((i, j) -> remainders.get(j).compareTo(remainders.get(i)));
        for (int i = 0; i < left.intValueExact(); i++) {
            shares.set(order.get(i), shares.get(order.get(i)) + 1);
        }
        return shares;
    }
}
