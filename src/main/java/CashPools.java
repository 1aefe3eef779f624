import java.util.ArrayList;

/**
 * A treasury desk with cash pools. The face checks the arguments and answers; the classes inside do
 * the work. Whatever "would be" is told by letting the days pass for real and then going back to
 * what was remembered, so that a forecast can never differ from what happens.
 */
public final class CashPools {
    private static final int MAX_ACCOUNTS = 10;
    private static final int MAX_LINES = 6;
    private static final int MAX_FLOWS = 20;
    private static final int BANKS = 4;
    private static final int MAX_RATE = 1000;
    private static final int MAX_RULE = 3;
    private static final int MAX_AMOUNT = 1000000;
    private static final int MAX_LINE_LIMIT = 10000000;
    private static final int MAX_BANK_LIMIT = 1000000000;
    private static final int NO_LIMIT = -1;
    /** The room of a bank without a limit: more than all balances together can ever be. */
    private static final long ENDLESS = 1L << 62;
    private static final int MAX_STEP = 100;
    private static final int MAX_TIMES = 30;
    private static final int LAST_DAY = 450;
    private static final int LAST_TODAY = 400;
    private static final int MAX_DAYS = 60;
    private static final int WEEK = 7;
    private static final int WORKING_DAYS = 5;
    private static final int BOOKING_PERIOD = 20;
    /** 360 days of 10000 basis points: what a sum of balance times rate is divided by. */
    private static final long YEAR_OF_POINTS = 3600000L;
    /** Far above what easing can need: each move fills a bank, frees one, or empties an account. */
    private static final int MAX_MOVES = 1000000;

    private final Desk desk;

    public CashPools() {
        desk = new Desk();
    }

    // ---- pools, accounts, lines

    public int addPool(int bank, int creditRate, int debitRate)
            throws IllegalArgumentException, IllegalStateException {
        Bank home = bankAt(bank);
        requireWithin(creditRate, 0, MAX_RATE);
        requireWithin(debitRate, 0, MAX_RATE);
        requireAccountLeft();
        return desk.openPool(home, creditRate, debitRate);
    }

    public int addAccount(int parent, int bank)
            throws IndexOutOfBoundsException, IllegalArgumentException, IllegalStateException {
        Account above = accountAt(parent);
        Bank home = bankAt(bank);
        requireAccountLeft();
        return desk.openAccount(above, home);
    }

    public int setRule(int account, int rule, int target)
            throws IndexOutOfBoundsException, IllegalArgumentException, IllegalStateException {
        Account changed = accountAt(account);
        requireWithin(rule, 0, MAX_RULE);
        requireWithin(target, -MAX_AMOUNT, MAX_AMOUNT);
        if (changed.parent == null) {
            throw new IllegalStateException("a top account has no rule");
        }
        int before = changed.rule;
        changed.rule = rule;
        changed.target = target;
        return before;
    }

    public int setFloor(int account, int floor)
            throws IndexOutOfBoundsException, IllegalArgumentException {
        Account changed = accountAt(account);
        requireWithin(floor, -MAX_AMOUNT, MAX_AMOUNT);
        int before = changed.floor;
        changed.floor = floor;
        return before;
    }

    public int addLine(int pool, int limit, int rate)
            throws IndexOutOfBoundsException, IllegalArgumentException, IllegalStateException {
        Account top = accountAt(pool);
        requireWithin(limit, 1, MAX_LINE_LIMIT);
        requireWithin(rate, 0, MAX_RATE);
        requireTop(top);
        if (desk.everyLine.size() >= MAX_LINES) {
            throw new IllegalStateException("there is no line left");
        }
        return desk.openLine(top, limit, rate);
    }

    public int setBankLimit(int bank, int limit) throws IllegalArgumentException {
        Bank changed = bankAt(bank);
        requireWithin(limit, NO_LIMIT, MAX_BANK_LIMIT);
        int before = changed.limit;
        changed.limit = limit;
        return before;
    }

    // ---- days

    public int today() {
        return desk.day;
    }

    public int addHoliday(int day) throws IllegalArgumentException {
        requireWithin(day, 0, LAST_DAY);
        desk.calendar.markHoliday(day);
        return desk.calendar.countSettling();
    }

    public int settlementDay(int day) throws IllegalArgumentException {
        requireWithin(day, 0, LAST_DAY);
        return desk.calendar.firstSettlingFrom(day);
    }

    public int passDays(int days) throws IllegalArgumentException, IllegalStateException {
        requireWithin(days, 1, MAX_DAYS);
        if (desk.day + days > LAST_TODAY) {
            throw new IllegalStateException("today would be too late");
        }
        for (int passed = 0; passed < days; passed++) {
            desk.passDay();
        }
        return desk.day;
    }

    // ---- flows

    public long book(int account, int amount)
            throws IndexOutOfBoundsException, IllegalArgumentException {
        Account booked = accountAt(account);
        requireAmount(amount);
        booked.cash += amount;
        return booked.cash;
    }

    public int schedule(int account, int amount, int first, int step, int times)
            throws IndexOutOfBoundsException, IllegalArgumentException, IllegalStateException {
        Account booked = accountAt(account);
        requireAmount(amount);
        requireWithin(first, desk.day, LAST_DAY);
        requireWithin(step, 1, MAX_STEP);
        requireWithin(times, 1, MAX_TIMES);
        if (desk.everyFlow.size() >= MAX_FLOWS) {
            throw new IllegalStateException("there is no flow left");
        }
        desk.everyFlow.add(new Flow(booked, amount, first, step, times));
        return desk.everyFlow.size() - 1;
    }

    public int cancel(int flow) throws IndexOutOfBoundsException {
        Flow cancelled = flowAt(flow);
        int before = cancelled.left;
        cancelled.left = 0;
        return before;
    }

    public int timesLeft(int flow) throws IndexOutOfBoundsException {
        return flowAt(flow).left;
    }

    public long scheduled(int account, int from, int to)
            throws IndexOutOfBoundsException, IllegalArgumentException {
        Account booked = accountAt(account);
        requireWithin(from, desk.day, LAST_DAY);
        requireWithin(to, from, LAST_DAY);
        return desk.sumOfFlows(booked, from, to);
    }

    // ---- positions

    public int accounts() {
        return desk.everyAccount.size();
    }

    public int poolOf(int account) throws IndexOutOfBoundsException {
        return accountAt(account).pool.number;
    }

    public long balance(int account) throws IndexOutOfBoundsException {
        return accountAt(account).cash;
    }

    public long total(int account) throws IndexOutOfBoundsException {
        return Tree.sumFrom(accountAt(account), 0);
    }

    public long exposure(int bank) throws IllegalArgumentException {
        Bank asked = bankAt(bank);
        desk.measureBanks();
        return asked.exposed;
    }

    public int drawn(int line) throws IndexOutOfBoundsException {
        return (int) lineAt(line).used;
    }

    public long costOf(int line) throws IndexOutOfBoundsException {
        return lineAt(line).cost;
    }

    public long interestOf(int account) throws IndexOutOfBoundsException {
        return accountAt(account).interest;
    }

    public long poolInterest(int pool) throws IndexOutOfBoundsException, IllegalStateException {
        Account top = accountAt(pool);
        requireTop(top);
        return top.pool.credit.booked - top.pool.debit.booked;
    }

    // ---- what would be

    public long afterSweep(int account) throws IndexOutOfBoundsException {
        return Tree.sweptCash(accountAt(account));
    }

    public long afterSweepByMoves(int account) throws IndexOutOfBoundsException {
        Account asked = accountAt(account);
        desk.keep();
        desk.sweepPools();
        long answer = asked.cash;
        desk.goBack();
        return answer;
    }

    public long forecast(int account, int days)
            throws IndexOutOfBoundsException, IllegalArgumentException {
        Account asked = accountAt(account);
        requireWithin(days, 1, MAX_DAYS);
        desk.keep();
        for (int passed = 0; passed < days; passed++) {
            desk.passDay();
        }
        long answer = asked.cash;
        desk.goBack();
        return answer;
    }

    public int daysToShort(int pool, int days)
            throws IndexOutOfBoundsException, IllegalArgumentException, IllegalStateException {
        Account top = accountAt(pool);
        requireWithin(days, 1, MAX_DAYS);
        requireTop(top);
        int answer = -1;
        desk.keep();
        for (int passed = 1; answer < 0 && passed <= days; passed++) {
            desk.passDay();
            if (top.cash < 0) {
                answer = passed;
            }
        }
        desk.goBack();
        return answer;
    }

    private static void requireWithin(int value, int least, int most) {
        if (value < least || value > most) {
            throw new IllegalArgumentException("an argument is out of range");
        }
    }

    private static void requireAmount(int amount) {
        requireWithin(amount, -MAX_AMOUNT, MAX_AMOUNT);
        if (amount == 0) {
            throw new IllegalArgumentException("the amount is 0");
        }
    }

    private static void requireTop(Account account) {
        if (account.parent != null) {
            throw new IllegalStateException("this is no top account");
        }
    }

    private void requireAccountLeft() {
        if (desk.everyAccount.size() >= MAX_ACCOUNTS) {
            throw new IllegalStateException("there is no account left");
        }
    }

    private Account accountAt(int number) {
        if (number < 0 || number >= desk.everyAccount.size()) {
            throw new IndexOutOfBoundsException("there is no such account");
        }
        return desk.everyAccount.get(number);
    }

    private Line lineAt(int number) {
        if (number < 0 || number >= desk.everyLine.size()) {
            throw new IndexOutOfBoundsException("there is no such line");
        }
        return desk.everyLine.get(number);
    }

    private Flow flowAt(int number) {
        if (number < 0 || number >= desk.everyFlow.size()) {
            throw new IndexOutOfBoundsException("there is no such flow");
        }
        return desk.everyFlow.get(number);
    }

    private Bank bankAt(int number) {
        if (number < 0 || number >= desk.banks.size()) {
            throw new IllegalArgumentException("there is no such bank");
        }
        return desk.banks.get(number);
    }

    /** All that the desk holds, and what happens to it when a day passes. */
    private static final class Desk {
        final ArrayList<Account> everyAccount = new ArrayList<>();
        private final ArrayList<Account> tops = new ArrayList<>();
        final ArrayList<Line> everyLine = new ArrayList<>();
        final ArrayList<Flow> everyFlow = new ArrayList<>();
        final ArrayList<Bank> banks = new ArrayList<>();
        final Calendar calendar = new Calendar();
        int day;
        private int keptDay;

        Desk() {
            for (int number = 0; number < BANKS; number++) {
                banks.add(new Bank(number));
            }
        }

        int openPool(Bank bank, int creditRate, int debitRate) {
            int number = everyAccount.size();
            Pool pool = new Pool(number, creditRate, debitRate);
            Account top = new Account(number, null, pool, bank);
            tops.add(top);
            enter(top);
            return number;
        }

        int openAccount(Account parent, Bank bank) {
            int number = everyAccount.size();
            Account added = new Account(number, parent, parent.pool, bank);
            parent.children.add(added);
            enter(added);
            return number;
        }

        private void enter(Account account) {
            everyAccount.add(account);
            account.pool.members.add(account);
        }

        int openLine(Account top, int limit, int rate) {
            Line line = new Line(top, limit, rate);
            everyLine.add(line);
            top.pool.rank(line);
            return everyLine.size() - 1;
        }

        void passDay() {
            if (calendar.settles(day)) {
                bookDueFlows();
                sweepPools();
                coverPools();
                easeBanks();
            }
            accrueInterest();
            if ((day + 1) % BOOKING_PERIOD == 0) {
                bookInterest();
            }
            day++;
        }

        private void bookDueFlows() {
            for (int i = 0; i < everyFlow.size(); i++) {
                everyFlow.get(i).bookUpTo(day);
            }
        }

        void sweepPools() {
            for (int i = 0; i < tops.size(); i++) {
                Tree.sweep(tops.get(i));
            }
        }

        private void coverPools() {
            for (int i = 0; i < tops.size(); i++) {
                Account top = tops.get(i);
                top.pool.drawMissing(top);
                top.pool.payBack(top);
            }
        }

        private void easeBanks() {
            boolean possible = true;
            for (int moves = 0; possible && moves < MAX_MOVES; moves++) {
                measureBanks();
                Account giver = findGiver();
                possible = giver != null && moveAway(giver);
            }
        }

        void measureBanks() {
            for (int i = 0; i < banks.size(); i++) {
                banks.get(i).exposed = 0;
            }
            for (int i = 0; i < everyAccount.size(); i++) {
                Account account = everyAccount.get(i);
                account.bank.exposed += Math.max(account.cash, 0);
            }
        }

        private Account findGiver() {
            Account best = null;
            for (int i = 0; i < everyAccount.size(); i++) {
                Account account = everyAccount.get(i);
                boolean canGive = account.cash > 0 && account.bank.excess() > 0
                        && findGetter(account.pool) != null;
                if (canGive && (best == null || givesBefore(account, best))) {
                    best = account;
                }
            }
            return best;
        }

        private static boolean givesBefore(Account one, Account other) {
            if (one.bank.number == other.bank.number) {
                return one.cash > other.cash;
            }
            if (one.bank.excess() != other.bank.excess()) {
                return one.bank.excess() > other.bank.excess();
            }
            return one.bank.number < other.bank.number;
        }

        private static Account findGetter(Pool pool) {
            Account best = null;
            for (int i = 0; i < pool.members.size(); i++) {
                Account account = pool.members.get(i);
                boolean canGet = account.cash >= 0 && account.bank.room() > 0;
                if (canGet && (best == null || account.bank.room() > best.bank.room())) {
                    best = account;
                }
            }
            return best;
        }

        private static boolean moveAway(Account giver) {
            Account getter = findGetter(giver.pool);
            if (getter == null) {
                return false;
            }
            long most = Math.min(giver.cash, getter.bank.room());
            long amount = Math.min(giver.bank.excess(), most);
            giver.cash -= amount;
            getter.cash += amount;
            return true;
        }

        private void accrueInterest() {
            for (int i = 0; i < tops.size(); i++) {
                tops.get(i).pool.accrue();
            }
            for (int i = 0; i < everyLine.size(); i++) {
                everyLine.get(i).accrue();
            }
        }

        private void bookInterest() {
            for (int i = 0; i < tops.size(); i++) {
                tops.get(i).pool.bookInterest();
            }
            for (int i = 0; i < everyLine.size(); i++) {
                everyLine.get(i).bookInterest();
            }
        }

        long sumOfFlows(Account account, int from, int to) {
            long sum = 0;
            for (int i = 0; i < everyFlow.size(); i++) {
                Flow flow = everyFlow.get(i);
                if (flow.account == account) {
                    sum += flow.sumWithin(calendar, from, to);
                }
            }
            return sum;
        }

        void keep() {
            keptDay = day;
            for (int i = 0; i < everyAccount.size(); i++) {
                everyAccount.get(i).keep();
            }
            for (int i = 0; i < tops.size(); i++) {
                tops.get(i).pool.keep();
            }
            for (int i = 0; i < everyLine.size(); i++) {
                everyLine.get(i).keep();
            }
            for (int i = 0; i < everyFlow.size(); i++) {
                everyFlow.get(i).keep();
            }
        }

        void goBack() {
            day = keptDay;
            for (int i = 0; i < everyAccount.size(); i++) {
                everyAccount.get(i).goBack();
            }
            for (int i = 0; i < tops.size(); i++) {
                tops.get(i).pool.goBack();
            }
            for (int i = 0; i < everyLine.size(); i++) {
                everyLine.get(i).goBack();
            }
            for (int i = 0; i < everyFlow.size(); i++) {
                everyFlow.get(i).goBack();
            }
        }
    }

    /** Which days are settlement days; behind the last day that can be a holiday only weekends count. */
    private static final class Calendar {
        private final boolean[] holiday = new boolean[LAST_DAY + 1];

        void markHoliday(int day) {
            if (day >= 0 && day < holiday.length) {
                holiday[day] = true;
            }
        }

        boolean settles(int day) {
            boolean isHoliday = day >= 0 && day < holiday.length && holiday[day];
            return day % WEEK < WORKING_DAYS && !isHoliday;
        }

        int firstSettlingFrom(int day) {
            for (int later = day; later <= LAST_DAY; later++) {
                if (settles(later)) {
                    return later;
                }
            }
            return -1;
        }

        int countSettling() {
            int count = 0;
            for (int day = 0; day <= LAST_DAY; day++) {
                if (settles(day)) {
                    count++;
                }
            }
            return count;
        }
    }

    private static final class Bank {
        final int number;
        int limit = NO_LIMIT;
        long exposed;

        Bank(int number) {
            this.number = number;
        }

        long excess() {
            return limit == NO_LIMIT ? 0 : Math.max(exposed - limit, 0);
        }

        long room() {
            return limit == NO_LIMIT ? ENDLESS : Math.max(limit - exposed, 0);
        }
    }

    private static final class Account {
        final int number;
        final Account parent;
        final Pool pool;
        final Bank bank;
        final ArrayList<Account> children = new ArrayList<>();
        int rule;
        int target;
        int floor;
        long cash;
        long interest;
        private long keptCash;
        private long keptInterest;

        Account(int number, Account parent, Pool pool, Bank bank) {
            this.number = number;
            this.parent = parent;
            this.pool = pool;
            this.bank = bank;
        }

        /** What is too much in it, or below 0 what it lacks, if it held so much. */
        long surplusOf(long held) {
            switch (rule) {
                case 1:
                    return held - target;
                case 2:
                    return Math.max(held - target, 0);
                case 3:
                    return Math.min(held - target, 0);
                default:
                    return 0;
            }
        }

        void addInterest(long amount) {
            cash += amount;
            interest += amount;
        }

        void keep() {
            keptCash = cash;
            keptInterest = interest;
        }

        void goBack() {
            cash = keptCash;
            interest = keptInterest;
        }
    }

    /** What concerns an account together with the accounts above and below it. */
    private static final class Tree {

        private static long sumFrom(Account account, int depth) {
            if (depth > MAX_ACCOUNTS) {
                return 0;
            }
            long sum = account.cash;
            for (int i = 0; i < account.children.size(); i++) {
                sum += sumFrom(account.children.get(i), depth + 1);
            }
            return sum;
        }

        static void sweep(Account top) {
            sweepUp(top, 0);
            sweepDown(top, 0);
        }

        private static void sweepUp(Account account, int depth) {
            if (depth > MAX_ACCOUNTS) {
                return;
            }
            for (int i = 0; i < account.children.size(); i++) {
                sweepUp(account.children.get(i), depth + 1);
            }
            long given = Math.max(account.surplusOf(account.cash), 0);
            if (account.parent != null) {
                account.cash -= given;
                account.parent.cash += given;
            }
        }

        private static void sweepDown(Account account, int depth) {
            if (depth > MAX_ACCOUNTS) {
                return;
            }
            if (account.parent != null) {
                long got = partOf(account, account.cash, account.parent.cash);
                account.cash += got;
                account.parent.cash -= got;
            }
            for (int i = 0; i < account.children.size(); i++) {
                sweepDown(account.children.get(i), depth + 1);
            }
        }

        /** What an account that holds so much gets from its parent that holds so much. */
        private static long partOf(Account account, long held, long heldAbove) {
            if (account.parent == null) {
                return 0;
            }
            long lacking = Math.max(-account.surplusOf(held), 0);
            long spare = Math.max(heldAbove - account.parent.floor, 0);
            return Math.min(lacking, spare);
        }

        /** The balance behind a sweep, told without a move. */
        static long sweptCash(Account account) {
            return leftBefore(account, MAX_ACCOUNTS, 0);
        }

        /** What an account still holds when it has given to its children of lower numbers. */
        private static long leftBefore(Account account, int child, int depth) {
            if (depth > MAX_ACCOUNTS) {
                return 0;
            }
            long left = heldBetweenPasses(account);
            if (account.parent != null) {
                left += partOf(account, left, leftBefore(account.parent, account.number, depth + 1));
            }
            for (int i = 0; i < account.children.size(); i++) {
                Account below = account.children.get(i);
                if (below.number < child) {
                    left -= partOf(below, heldBetweenPasses(below), left);
                }
            }
            return left;
        }

        private static long heldBetweenPasses(Account account) {
            long held = heldWithGifts(account, 0);
            return held - Math.max(account.surplusOf(held), 0);
        }

        /** What an account holds when all below it have given, and it has not yet. */
        private static long heldWithGifts(Account account, int depth) {
            if (depth > MAX_ACCOUNTS) {
                return 0;
            }
            long held = account.cash;
            for (int i = 0; i < account.children.size(); i++) {
                Account below = account.children.get(i);
                held += Math.max(below.surplusOf(heldWithGifts(below, depth + 1)), 0);
            }
            return held;
        }
    }

    /** What the accounts of one tree have together: their interest and their lines. */
    private static final class Pool {
        final int number;
        final Side credit;
        final Side debit;
        final ArrayList<Account> members = new ArrayList<>();
        /** The cheapest first, of the same rate the lower number first. */
        private final ArrayList<Line> ranked = new ArrayList<>();

        Pool(int number, int creditRate, int debitRate) {
            this.number = number;
            credit = new Side(creditRate, 1);
            debit = new Side(debitRate, -1);
        }

        void rank(Line line) {
            int place = 0;
            while (place < ranked.size() && ranked.get(place).rate <= line.rate) {
                place++;
            }
            ranked.add(place, line);
        }

        void drawMissing(Account top) {
            for (int i = 0; i < ranked.size(); i++) {
                Line line = ranked.get(i);
                long missing = Math.max(-top.cash, 0);
                long amount = Math.min(missing, line.limit - line.used);
                line.used += amount;
                top.cash += amount;
            }
        }

        void payBack(Account top) {
            for (int i = ranked.size() - 1; i >= 0; i--) {
                Line line = ranked.get(i);
                long amount = Math.min(Math.max(top.cash, 0), line.used);
                line.used -= amount;
                top.cash -= amount;
            }
        }

        void accrue() {
            long together = 0;
            for (int i = 0; i < members.size(); i++) {
                together += members.get(i).cash;
            }
            credit.accrue(together, members);
            debit.accrue(together, members);
        }

        void bookInterest() {
            credit.bookTo(members);
            debit.bookTo(members);
        }

        void keep() {
            credit.keep();
            debit.keep();
        }

        void goBack() {
            credit.goBack();
            debit.goBack();
        }
    }

    /** The credit side (sign 1) or the debit side (sign -1) of the interest of a pool. */
    private static final class Side {
        private final int rate;
        private final int sign;
        private long sum;
        long booked;
        /** Each by the place of an account among the members of its pool. */
        private final long[] weights = new long[MAX_ACCOUNTS];
        private final long[] shares = new long[MAX_ACCOUNTS];
        private final long[] remainders = new long[MAX_ACCOUNTS];
        private long keptSum;
        private long keptBooked;
        private final long[] keptWeights = new long[MAX_ACCOUNTS];

        Side(int rate, int sign) {
            this.rate = rate;
            this.sign = sign;
        }

        void accrue(long together, ArrayList<Account> members) {
            long size = sign * together;
            if (size <= 0) {
                return;
            }
            sum += size * rate;
            for (int i = 0; i < members.size() && i < weights.length; i++) {
                weights[i] += Math.max(sign * members.get(i).cash, 0);
            }
        }

        void bookTo(ArrayList<Account> members) {
            long amount = sum / YEAR_OF_POINTS;
            sum -= amount * YEAR_OF_POINTS;
            booked += amount;
            split(amount);
            for (int i = 0; i < weights.length; i++) {
                if (i < members.size()) {
                    members.get(i).addInterest(sign * shares[i]);
                }
                weights[i] = 0;
            }
        }

        private void split(long amount) {
            long whole = 0;
            for (int i = 0; i < weights.length; i++) {
                whole += weights[i];
                shares[i] = 0;
            }
            if (whole <= 0) {
                return;
            }
            long left = amount;
            for (int i = 0; i < weights.length; i++) {
                long product = amount * weights[i];
                shares[i] = product / whole;
                remainders[i] = product % whole;
                left -= shares[i];
            }
            giveCents(left);
        }

        private void giveCents(long cents) {
            for (int given = 0; given < cents && given < shares.length; given++) {
                int best = 0;
                for (int i = 1; i < remainders.length; i++) {
                    if (remainders[i] > remainders[best]) {
                        best = i;
                    }
                }
                shares[best]++;
                remainders[best] = -1;
            }
        }

        void keep() {
            keptSum = sum;
            keptBooked = booked;
            System.arraycopy(weights, 0, keptWeights, 0, MAX_ACCOUNTS);
        }

        void goBack() {
            sum = keptSum;
            booked = keptBooked;
            System.arraycopy(keptWeights, 0, weights, 0, MAX_ACCOUNTS);
        }
    }

    private static final class Line {
        private final Account top;
        final int limit;
        final int rate;
        long used;
        long cost;
        private long sum;
        private long keptUsed;
        private long keptCost;
        private long keptSum;

        Line(Account top, int limit, int rate) {
            this.top = top;
            this.limit = limit;
            this.rate = rate;
        }

        void accrue() {
            sum += used * rate;
        }

        void bookInterest() {
            long amount = sum / YEAR_OF_POINTS;
            sum -= amount * YEAR_OF_POINTS;
            cost += amount;
            top.cash -= amount;
        }

        void keep() {
            keptUsed = used;
            keptCost = cost;
            keptSum = sum;
        }

        void goBack() {
            used = keptUsed;
            cost = keptCost;
            sum = keptSum;
        }
    }

    private static final class Flow {
        final Account account;
        private final int amount;
        private final int step;
        /** The day of the first time that is not done yet. */
        private int due;
        int left;
        private int keptDue;
        private int keptLeft;

        Flow(Account account, int amount, int first, int step, int times) {
            this.account = account;
            this.amount = amount;
            this.step = step;
            due = first;
            left = times;
        }

        void bookUpTo(int day) {
            while (left > 0 && due <= day) {
                account.cash += amount;
                due += step;
                left--;
            }
        }

        long sumWithin(Calendar calendar, int from, int to) {
            long sum = 0;
            for (int time = 0; time < left; time++) {
                int booked = calendar.firstSettlingFrom(due + time * step);
                if (booked >= from && booked <= to) {
                    sum += amount;
                }
            }
            return sum;
        }

        void keep() {
            keptDue = due;
            keptLeft = left;
        }

        void goBack() {
            due = keptDue;
            left = keptLeft;
        }
    }
}
