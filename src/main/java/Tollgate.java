/** A ledger of accounts, entries, holds, closings and statements; ../shared/DOC.md says what each call answers. */
public final class Tollgate {

    private static final int NONE = -1;

    private static final int LAST_DAY = 364;
    private static final int LAST_CURRENCY = 3;
    private static final int PLAIN_RATE = 1000;
    private static final int MAX_RATE = 100000;
    private static final int MAX_FLOOR = 100000;
    private static final int MAX_AMOUNT = 1000000;
    private static final int MAX_NOTE = 999;
    private static final int MAX_DAYS_AWAY = 30;

    private static final int HAVE = 0;
    private static final int EARN = 2;
    private static final int SPEND = 3;
    private static final int OWN = 4;
    private static final int LAST_KIND = 4;

    private static final int MAX_ACCOUNTS = 10;
    private static final int MAX_ENTRIES = 60;
    private static final int MAX_HOLDS = 20;
    private static final int MAX_LINES = 40;
    private static final int MAX_DRAFT_LEGS = 6;
    // A closing has the most legs: one for each account at the utmost.
    private static final int MAX_ENTRY_LEGS = 10;
    private static final int MAX_LEGS = MAX_ENTRIES * MAX_ENTRY_LEGS;

    private static final int NO_DRAFT = 1;
    private static final int TOO_FEW_LEGS = 2;
    private static final int DAY_LOCKED = 3;
    private static final int WORTHS_DIFFER = 4;
    private static final int FLOOR_BROKEN = 5;
    private static final int ENTRIES_FULL = 6;

    private static final long DIGEST_START = 58089;
    private static final long DIGEST_FACTOR = 31;
    private static final int DIGEST_DAYS_AWAY = 3;

    private final Accounts accounts = new Accounts();
    private final Draft draft = new Draft();
    private final Journal journal = new Journal();
    private final Holds holds = new Holds();
    private final Lines lines = new Lines();
    private final Matching kept = new Matching(journal, lines);
    private final Matching trial = new Matching(journal, lines);
    // The legs of the entry that a call is about to make, or only asks about.
    private final LegRow plan = new LegRow();
    private int exchangeAccount = NONE;
    private int today = 0;

    public Tollgate() {
    }

    // ---- accounts

    public int rate(int currency, int rate) throws IllegalArgumentException, IllegalStateException {
        if (currency < 1 || currency > LAST_CURRENCY || rate < 1 || rate > MAX_RATE) {
            throw new IllegalArgumentException("no such currency or rate");
        }
        if (accounts.anyIn(currency)) {
            throw new IllegalStateException("an account has that currency");
        }
        int before = accounts.rates[currency];
        accounts.rates[currency] = rate;
        return before;
    }

    public int account(int kind, int currency) throws IllegalArgumentException, IllegalStateException {
        if (kind < 0 || kind > LAST_KIND || currency < 0 || currency > LAST_CURRENCY) {
            throw new IllegalArgumentException("no such kind or currency");
        }
        if (accounts.count >= MAX_ACCOUNTS) {
            throw new IllegalStateException("there are as many accounts as there can be");
        }
        return accounts.add(kind, currency);
    }

    public long floor(int account, int floor)
            throws IndexOutOfBoundsException, IllegalArgumentException, IllegalStateException {
        needAccount(account);
        if (floor < -MAX_FLOOR || floor > MAX_FLOOR) {
            throw new IllegalArgumentException("no such floor");
        }
        long stand = standOf(account);
        if (stand - holds.heldOn(account, today, NONE) < floor) {
            throw new IllegalStateException("the account is below that floor");
        }
        accounts.floors[account] = floor;
        accounts.hasFloor[account] = true;
        return stand;
    }

    public int exchange(int account) throws IndexOutOfBoundsException, IllegalArgumentException {
        needAccount(account);
        if (accounts.currency[account] != 0) {
            throw new IllegalArgumentException("the account is of another currency than 0");
        }
        int before = exchangeAccount;
        exchangeAccount = account;
        return before;
    }

    public int pass(int days) throws IllegalArgumentException {
        if (days < 0 || days > LAST_DAY - today) {
            throw new IllegalArgumentException("no such day");
        }
        today += days;
        return today;
    }

    // ---- entries

    public int draft(int day, int note) throws IllegalArgumentException {
        needDay(day);
        if (note < 0 || note > MAX_NOTE) {
            throw new IllegalArgumentException("no such note");
        }
        int forgotten = draft.legs.count;
        draft.begin(day, note);
        return forgotten;
    }

    public long leg(int account, int amount)
            throws IndexOutOfBoundsException, IllegalArgumentException, IllegalStateException {
        needAccount(account);
        needAmount(amount);
        if (!draft.isThere || draft.legs.count >= MAX_DRAFT_LEGS) {
            throw new IllegalStateException("no draft that takes a leg");
        }
        draft.legs.add(account, amount, accounts.worth(account, amount));
        return draft.legs.worthSum();
    }

    public int post() throws IllegalStateException {
        if (whyNotPosted() != 0) {
            throw new IllegalStateException("the draft cannot be posted");
        }
        planDraft();
        int entry = journal.enter(draft.day, draft.note, false, plan);
        draft.forget();
        return entry;
    }

    public int reason() {
        return whyNotPosted();
    }

    public int turnBack(int entry) throws IndexOutOfBoundsException, IllegalStateException {
        if (!journal.has(entry) || journal.gone[entry]) {
            throw new IndexOutOfBoundsException("no such entry");
        }
        if (journal.isClosing[entry]) {
            throw new IllegalStateException("a closing is not turned back");
        }
        planTurnedBack(entry);
        needPlanToday(NONE);
        return journal.enter(today, journal.note[entry], false, plan);
    }

    public int ofEntry(int entry, int what) throws IndexOutOfBoundsException, IllegalArgumentException {
        needEntry(entry);
        switch (what) {
            case 0:
                return journal.day[entry];
            case 1:
                return journal.note[entry];
            case 2:
                return journal.legsOf[entry];
            case 3:
                return journal.gone[entry] ? 1 : 0;
            default:
                throw new IllegalArgumentException("what is 0 to 3");
        }
    }

    public long ofLeg(int entry, int leg, int what) throws IndexOutOfBoundsException, IllegalArgumentException {
        needEntry(entry);
        if (leg < 0 || leg >= journal.legsOf[entry]) {
            throw new IndexOutOfBoundsException("no such leg");
        }
        int place = journal.firstLeg[entry] + leg;
        switch (what) {
            case 0:
                return journal.account[place];
            case 1:
                return journal.amount[place];
            case 2:
                return journal.worth[place];
            case 3:
                return kept.lineOfLeg[place];
            default:
                throw new IllegalArgumentException("what is 0 to 3");
        }
    }

    // ---- holds

    public int hold(int account, int amount, int lastDay)
            throws IndexOutOfBoundsException, IllegalArgumentException, IllegalStateException {
        needAccount(account);
        if (accounts.kind[account] != HAVE || amount < 1 || amount > MAX_AMOUNT
                || lastDay < today || lastDay > LAST_DAY) {
            throw new IllegalArgumentException("no such hold can be");
        }
        if (holds.count >= MAX_HOLDS) {
            throw new IllegalStateException("there were as many holds as there can be");
        }
        if (accounts.hasFloor[account] && hadIf(account, today) < amount) {
            throw new IllegalStateException("less is to be had");
        }
        return holds.add(account, amount, lastDay);
    }

    public int take(int hold, int to, int amount)
            throws IndexOutOfBoundsException, IllegalArgumentException, IllegalStateException {
        needHold(hold);
        needAccount(to);
        int from = holds.account[hold];
        if (to == from || accounts.currency[to] != accounts.currency[from]
                || amount < 1 || amount > holds.amount[hold]) {
            throw new IllegalArgumentException("that cannot be taken from the hold");
        }
        needOpenHold(hold);
        planTaking(from, to, amount);
        needPlanToday(hold);
        holds.isEnded[hold] = true;
        return journal.enter(today, 0, false, plan);
    }

    public int letGo(int hold) throws IndexOutOfBoundsException, IllegalStateException {
        needHold(hold);
        needOpenHold(hold);
        holds.isEnded[hold] = true;
        return holds.amount[hold];
    }

    // ---- closing

    public int close(int day, int into)
            throws IndexOutOfBoundsException, IllegalArgumentException, IllegalStateException {
        needAccount(into);
        if (day < 0 || day > today || accounts.kind[into] != OWN || accounts.currency[into] != 0) {
            throw new IllegalArgumentException("no closing up to that day, or not into that account");
        }
        if (day <= journal.lastLocked() || journal.isFull()) {
            throw new IllegalStateException("that day is locked, or no entry can be made");
        }
        planClosing(day);
        long sum = plan.worthSum();
        if (sum != 0) {
            planLeg(into, -sum);
        }
        return journal.enter(day, 0, true, plan);
    }

    public int open() throws IllegalStateException {
        int closing = journal.lastClosing();
        if (closing == NONE) {
            throw new IllegalStateException("nothing is closed");
        }
        kept.freeLegsOf(closing);
        journal.gone[closing] = true;
        return journal.lastLocked();
    }

    // ---- statements

    public int line(int account, int day, int amount)
            throws IndexOutOfBoundsException, IllegalArgumentException, IllegalStateException {
        needAccount(account);
        needDay(day);
        needAmount(amount);
        if (lines.count >= MAX_LINES) {
            throw new IllegalStateException("there are as many lines as there can be");
        }
        return lines.add(account, day, amount);
    }

    public int match(int account, int days) throws IndexOutOfBoundsException, IllegalArgumentException {
        needAccount(account);
        needDaysAway(days);
        return kept.pairUp(account, days);
    }

    public long left(int account, int what) throws IndexOutOfBoundsException, IllegalArgumentException {
        needAccount(account);
        switch (what) {
            case 0:
                return lines.countOf(account);
            case 1:
                return kept.linesLeft(account);
            case 2:
                return kept.legsLeft(account);
            case 3:
                return kept.lineSumLeft(account);
            case 4:
                return kept.legSumLeft(account);
            default:
                throw new IllegalArgumentException("what is 0 to 4");
        }
    }

    public int matched(int line) throws IndexOutOfBoundsException {
        if (line < 0 || line >= lines.count) {
            throw new IndexOutOfBoundsException("no such line");
        }
        int leg = kept.firstOfLine[line];
        return leg == NONE ? NONE : journal.entryOf[leg];
    }

    // ---- asking

    public int many(int what) throws IllegalArgumentException {
        switch (what) {
            case 0:
                return accounts.count;
            case 1:
                return journal.countStanding();
            case 2:
                return holds.countOpen(today);
            case 3:
                return lines.count;
            case 4:
                return today;
            case 5:
                return journal.lastLocked();
            default:
                throw new IllegalArgumentException("what is 0 to 5");
        }
    }

    public long told(int account, int what) throws IndexOutOfBoundsException, IllegalArgumentException {
        needAccount(account);
        switch (what) {
            case 0:
                return journal.amountUpTo(account, LAST_DAY);
            case 1:
                return standOf(account);
            case 2:
                return journal.worthOn(account);
            case 3:
                return holds.heldOn(account, today, NONE);
            case 4:
                return hadIf(account, today);
            default:
                throw new IllegalArgumentException("what is 0 to 4");
        }
    }

    public long at(int account, int day) throws IndexOutOfBoundsException, IllegalArgumentException {
        needAccount(account);
        needDay(day);
        return journal.amountUpTo(account, day);
    }

    public long ofKind(int kind) throws IllegalArgumentException {
        if (kind < 0 || kind > LAST_KIND) {
            throw new IllegalArgumentException("no such kind");
        }
        long sum = 0;
        for (int account = 0; account < accounts.count; account++) {
            if (accounts.kind[account] == kind) {
                sum += journal.worthOn(account);
            }
        }
        return sum;
    }

    public long earned(int from, int to) throws IllegalArgumentException {
        needDay(from);
        needDay(to);
        long sum = 0;
        for (int account = 0; account < accounts.count; account++) {
            if (accounts.isClosed(account)) {
                sum -= journal.worthBetween(account, from, to);
            }
        }
        return sum;
    }

    // ---- what would be (nothing is changed)

    public long hadOn(int account, int day) throws IndexOutOfBoundsException, IllegalArgumentException {
        needAccount(account);
        if (day < today || day > LAST_DAY) {
            throw new IllegalArgumentException("no such day from today on");
        }
        return hadIf(account, day);
    }

    public int wouldMatch(int account, int days) throws IndexOutOfBoundsException, IllegalArgumentException {
        needAccount(account);
        needDaysAway(days);
        return trial.pairUp(account, days);
    }

    public long wouldClose(int day) throws IllegalArgumentException {
        needDay(day);
        planClosing(day);
        return -plan.worthSum();
    }

    public double meanLegs() {
        int entries = journal.countStanding();
        return entries == 0 ? 0 : (double) journal.countStandingLegs() / entries;
    }

    public long digest() {
        long d = DIGEST_START;
        for (int what = 0; what <= 5; what++) {
            d = mix(d, many(what));
        }
        d = mix(d, whyNotPosted());
        for (int account = 0; account < accounts.count; account++) {
            d = mixAccount(d, account);
        }
        for (int entry = 0; entry < journal.count; entry++) {
            d = mixEntry(d, entry);
        }
        for (int line = 0; line < lines.count; line++) {
            d = mix(d, matched(line));
        }
        for (int kind = 0; kind <= LAST_KIND; kind++) {
            d = mix(d, ofKind(kind));
        }
        return mix(d, wouldClose(today));
    }

    private static long mix(long d, long x) {
        return d * DIGEST_FACTOR + x;
    }

    private long mixAccount(long start, int account) {
        long d = start;
        for (int what = 0; what <= 4; what++) {
            d = mix(d, told(account, what));
        }
        for (int what = 0; what <= 4; what++) {
            d = mix(d, left(account, what));
        }
        return mix(d, trial.pairUp(account, DIGEST_DAYS_AWAY));
    }

    private long mixEntry(long start, int entry) {
        long d = start;
        for (int what = 0; what <= 3; what++) {
            d = mix(d, ofEntry(entry, what));
        }
        for (int leg = 0; leg < journal.legsOf[entry]; leg++) {
            for (int what = 0; what <= 3; what++) {
                d = mix(d, ofLeg(entry, leg, what));
            }
        }
        return d;
    }

    private void needAccount(int account) {
        if (account < 0 || account >= accounts.count) {
            throw new IndexOutOfBoundsException("no such account");
        }
    }

    private void needEntry(int entry) {
        if (!journal.has(entry)) {
            throw new IndexOutOfBoundsException("no such entry");
        }
    }

    private void needHold(int hold) {
        if (hold < 0 || hold >= holds.count) {
            throw new IndexOutOfBoundsException("no such hold");
        }
    }

    private void needOpenHold(int hold) {
        if (!holds.isOpen(hold, today)) {
            throw new IllegalStateException("the hold is not open");
        }
    }

    private static void needDay(int day) {
        if (day < 0 || day > LAST_DAY) {
            throw new IllegalArgumentException("no such day");
        }
    }

    private static void needAmount(int amount) {
        if (amount == 0 || amount < -MAX_AMOUNT || amount > MAX_AMOUNT) {
            throw new IllegalArgumentException("no such amount");
        }
    }

    private static void needDaysAway(int days) {
        if (days < 0 || days > MAX_DAYS_AWAY) {
            throw new IllegalArgumentException("days are 0 to 30");
        }
    }

    /** Refuses the plan as an entry of today, one that takes from takenHold (or from NONE). */
    private void needPlanToday(int takenHold) {
        if (today <= journal.lastLocked() || !planKeepsFloors(takenHold) || journal.isFull()) {
            throw new IllegalStateException("no such entry can be made today");
        }
    }

    private long standOf(int account) {
        return accounts.stand(account, journal.amountUpTo(account, LAST_DAY));
    }

    private long hadIf(int account, int day) {
        long free = standOf(account) - holds.heldOn(account, day, NONE);
        return accounts.hasFloor[account] ? free - accounts.floors[account] : free;
    }

    private int whyNotPosted() {
        if (!draft.isThere) {
            return NO_DRAFT;
        }
        if (draft.legs.count < 2) {
            return TOO_FEW_LEGS;
        }
        if (draft.day <= journal.lastLocked()) {
            return DAY_LOCKED;
        }
        if (draft.legs.worthSum() != 0 && !canBeExchanged()) {
            return WORTHS_DIFFER;
        }
        planDraft();
        if (!planKeepsFloors(NONE)) {
            return FLOOR_BROKEN;
        }
        return journal.isFull() ? ENTRIES_FULL : 0;
    }

    private boolean canBeExchanged() {
        return exchangeAccount != NONE && draftHasTwoCurrencies()
                && Math.abs(draft.legs.worthSum()) <= draft.legs.count;
    }

    private boolean draftHasTwoCurrencies() {
        for (int i = 1; i < draft.legs.count; i++) {
            if (accounts.currency[draft.legs.account[i]] != accounts.currency[draft.legs.account[0]]) {
                return true;
            }
        }
        return false;
    }

    private void planLeg(int account, long amount) {
        plan.add(account, amount, accounts.worth(account, amount));
    }

    private void planDraft() {
        plan.count = 0;
        for (int i = 0; i < draft.legs.count; i++) {
            plan.add(draft.legs.account[i], draft.legs.amount[i], draft.legs.worth[i]);
        }
        long sum = draft.legs.worthSum();
        if (sum != 0 && exchangeAccount != NONE) {
            planLeg(exchangeAccount, -sum);
        }
    }

    private void planTurnedBack(int entry) {
        plan.count = 0;
        int first = journal.firstLeg[entry];
        for (int leg = first; leg < first + journal.legsOf[entry]; leg++) {
            planLeg(journal.account[leg], -journal.amount[leg]);
        }
    }

    private void planTaking(int from, int to, int amount) {
        plan.count = 0;
        planLeg(from, -amount);
        planLeg(to, amount);
    }

    /** Plans a closing without the leg of the account that it goes into. */
    private void planClosing(int day) {
        plan.count = 0;
        for (int account = 0; account < accounts.count; account++) {
            if (accounts.isClosed(account)) {
                long sum = journal.amountUpTo(account, day);
                if (sum != 0) {
                    planLeg(account, -sum);
                }
            }
        }
    }

    private boolean planKeepsFloors(int takenHold) {
        for (int i = 0; i < plan.count; i++) {
            int account = plan.account[i];
            if (accounts.hasFloor[account]) {
                long balance = journal.amountUpTo(account, LAST_DAY) + plan.amountOn(account);
                long free = accounts.stand(account, balance) - holds.heldOn(account, today, takenHold);
                if (free < accounts.floors[account]) {
                    return false;
                }
            }
        }
        return true;
    }

    private static final class Accounts {
        final int[] rates = {PLAIN_RATE, PLAIN_RATE, PLAIN_RATE, PLAIN_RATE};
        final int[] kind = new int[MAX_ACCOUNTS];
        final int[] currency = new int[MAX_ACCOUNTS];
        final int[] floors = new int[MAX_ACCOUNTS];
        final boolean[] hasFloor = new boolean[MAX_ACCOUNTS];
        int count = 0;

        int add(int itsKind, int itsCurrency) {
            if (count >= MAX_ACCOUNTS) {
                return NONE;
            }
            kind[count] = itsKind;
            currency[count] = itsCurrency;
            return count++;
        }

        boolean anyIn(int wanted) {
            for (int account = 0; account < count; account++) {
                if (currency[account] == wanted) {
                    return true;
                }
            }
            return false;
        }

        boolean isClosed(int account) {
            return kind[account] == EARN || kind[account] == SPEND;
        }

        long stand(int account, long balance) {
            return kind[account] == HAVE || kind[account] == SPEND ? balance : -balance;
        }

        /** To the nearest number, and of two that are as near to the one farther from 0. */
        long worth(int account, long amount) {
            long thousandths = amount * rates[currency[account]];
            long half = thousandths < 0 ? -PLAIN_RATE / 2 : PLAIN_RATE / 2;
            return (thousandths + half) / PLAIN_RATE;
        }
    }

    /** The legs of one entry, or of what may become one. */
    private static final class LegRow {
        final int[] account = new int[MAX_ENTRY_LEGS];
        final long[] amount = new long[MAX_ENTRY_LEGS];
        final long[] worth = new long[MAX_ENTRY_LEGS];
        int count = 0;

        void add(int itsAccount, long itsAmount, long itsWorth) {
            if (count >= MAX_ENTRY_LEGS) {
                return;
            }
            account[count] = itsAccount;
            amount[count] = itsAmount;
            worth[count] = itsWorth;
            count++;
        }

        long worthSum() {
            long sum = 0;
            for (int i = 0; i < count; i++) {
                sum += worth[i];
            }
            return sum;
        }

        long amountOn(int wanted) {
            long sum = 0;
            for (int i = 0; i < count; i++) {
                if (account[i] == wanted) {
                    sum += amount[i];
                }
            }
            return sum;
        }
    }

    private static final class Draft {
        final LegRow legs = new LegRow();
        boolean isThere = false;
        int day = 0;
        int note = 0;

        void begin(int itsDay, int itsNote) {
            legs.count = 0;
            isThere = true;
            day = itsDay;
            note = itsNote;
        }

        void forget() {
            legs.count = 0;
            isThere = false;
        }
    }

    /** All entries; their legs lie one behind the other, so that a leg's place tells its order too. */
    private static final class Journal {
        final int[] day = new int[MAX_ENTRIES];
        final int[] note = new int[MAX_ENTRIES];
        final int[] firstLeg = new int[MAX_ENTRIES];
        final int[] legsOf = new int[MAX_ENTRIES];
        final boolean[] gone = new boolean[MAX_ENTRIES];
        final boolean[] isClosing = new boolean[MAX_ENTRIES];
        int count = 0;

        final int[] entryOf = new int[MAX_LEGS];
        final int[] account = new int[MAX_LEGS];
        final long[] amount = new long[MAX_LEGS];
        final long[] worth = new long[MAX_LEGS];
        int legCount = 0;

        boolean has(int entry) {
            return entry >= 0 && entry < count;
        }

        boolean isFull() {
            return count >= MAX_ENTRIES;
        }

        int enter(int itsDay, int itsNote, boolean asClosing, LegRow row) {
            if (isFull()) {
                return NONE;
            }
            int entry = count;
            day[entry] = itsDay;
            note[entry] = itsNote;
            isClosing[entry] = asClosing;
            firstLeg[entry] = legCount;
            for (int i = 0; i < row.count; i++) {
                addLeg(entry, row.account[i], row.amount[i], row.worth[i]);
            }
            legsOf[entry] = legCount - firstLeg[entry];
            count++;
            return entry;
        }

        private void addLeg(int entry, int itsAccount, long itsAmount, long itsWorth) {
            if (legCount >= MAX_LEGS) {
                return;
            }
            entryOf[legCount] = entry;
            account[legCount] = itsAccount;
            amount[legCount] = itsAmount;
            worth[legCount] = itsWorth;
            legCount++;
        }

        boolean counts(int leg) {
            return !gone[entryOf[leg]];
        }

        int dayOf(int leg) {
            return day[entryOf[leg]];
        }

        /** Closings end in the order against that of their making, so the last one that stands is the highest. */
        int lastClosing() {
            for (int entry = count - 1; entry >= 0; entry--) {
                if (isClosing[entry] && !gone[entry]) {
                    return entry;
                }
            }
            return NONE;
        }

        int lastLocked() {
            int closing = lastClosing();
            return closing == NONE ? NONE : day[closing];
        }

        int countStanding() {
            int standing = 0;
            for (int entry = 0; entry < count; entry++) {
                if (!gone[entry]) {
                    standing++;
                }
            }
            return standing;
        }

        int countStandingLegs() {
            int standing = 0;
            for (int leg = 0; leg < legCount; leg++) {
                if (counts(leg)) {
                    standing++;
                }
            }
            return standing;
        }

        long amountUpTo(int wanted, int lastDay) {
            long sum = 0;
            for (int leg = 0; leg < legCount; leg++) {
                if (account[leg] == wanted && counts(leg) && dayOf(leg) <= lastDay) {
                    sum += amount[leg];
                }
            }
            return sum;
        }

        long worthOn(int wanted) {
            long sum = 0;
            for (int leg = 0; leg < legCount; leg++) {
                if (account[leg] == wanted && counts(leg)) {
                    sum += worth[leg];
                }
            }
            return sum;
        }

        /** Without the legs of closings, which take away again what the others brought. */
        long worthBetween(int wanted, int from, int to) {
            long sum = 0;
            for (int leg = 0; leg < legCount; leg++) {
                if (account[leg] == wanted && counts(leg) && !isClosing[entryOf[leg]]
                        && dayOf(leg) >= from && dayOf(leg) <= to) {
                    sum += worth[leg];
                }
            }
            return sum;
        }
    }

    private static final class Holds {
        final int[] account = new int[MAX_HOLDS];
        final int[] amount = new int[MAX_HOLDS];
        final int[] lastDay = new int[MAX_HOLDS];
        final boolean[] isEnded = new boolean[MAX_HOLDS];
        int count = 0;

        int add(int itsAccount, int itsAmount, int itsLastDay) {
            if (count >= MAX_HOLDS) {
                return NONE;
            }
            account[count] = itsAccount;
            amount[count] = itsAmount;
            lastDay[count] = itsLastDay;
            return count++;
        }

        boolean isOpen(int hold, int day) {
            return !isEnded[hold] && day <= lastDay[hold];
        }

        long heldOn(int wanted, int day, int exceptHold) {
            long sum = 0;
            for (int hold = 0; hold < count; hold++) {
                if (hold != exceptHold && account[hold] == wanted && isOpen(hold, day)) {
                    sum += amount[hold];
                }
            }
            return sum;
        }

        int countOpen(int day) {
            int open = 0;
            for (int hold = 0; hold < count; hold++) {
                if (isOpen(hold, day)) {
                    open++;
                }
            }
            return open;
        }
    }

    private static final class Lines {
        final int[] account = new int[MAX_LINES];
        final int[] day = new int[MAX_LINES];
        final int[] amount = new int[MAX_LINES];
        final int[] byDay = new int[MAX_LINES];
        int count = 0;

        int add(int itsAccount, int itsDay, int itsAmount) {
            if (count >= MAX_LINES) {
                return NONE;
            }
            account[count] = itsAccount;
            day[count] = itsDay;
            amount[count] = itsAmount;
            sortIn(count);
            return count++;
        }

        private void sortIn(int line) {
            int place = line;
            while (place > 0 && day[byDay[place - 1]] > day[line]) {
                byDay[place] = byDay[place - 1];
                place--;
            }
            byDay[place] = line;
        }

        int countOf(int wanted) {
            int found = 0;
            for (int line = 0; line < count; line++) {
                if (account[line] == wanted) {
                    found++;
                }
            }
            return found;
        }
    }

    /** Which legs the lines are matched with: one object holds what was matched, another tries what would be. */
    private static final class Matching {
        private final Journal journal;
        private final Lines lines;
        final int[] lineOfLeg = new int[MAX_LEGS];
        final int[] firstOfLine = new int[MAX_LINES];
        final int[] secondOfLine = new int[MAX_LINES];

        Matching(Journal itsJournal, Lines itsLines) {
            journal = itsJournal;
            lines = itsLines;
            for (int leg = 0; leg < MAX_LEGS; leg++) {
                lineOfLeg[leg] = NONE;
            }
            for (int line = 0; line < MAX_LINES; line++) {
                firstOfLine[line] = NONE;
                secondOfLine[line] = NONE;
            }
        }

        /** Matches the lines of an account anew and answers how many are matched. */
        int pairUp(int account, int days) {
            for (int line = 0; line < lines.count; line++) {
                if (lines.account[line] == account) {
                    freeLine(line);
                }
            }
            for (int i = 0; i < lines.count; i++) {
                if (isLeft(lines.byDay[i], account)) {
                    bindNearest(lines.byDay[i], days);
                }
            }
            for (int i = 0; i < lines.count; i++) {
                if (isLeft(lines.byDay[i], account)) {
                    bindFirstTwo(lines.byDay[i], days);
                }
            }
            return lines.countOf(account) - linesLeft(account);
        }

        private boolean isLeft(int line, int account) {
            return lines.account[line] == account && firstOfLine[line] == NONE;
        }

        private boolean isLegLeft(int leg, int account) {
            return journal.account[leg] == account && lineOfLeg[leg] == NONE && journal.counts(leg);
        }

        private int away(int leg, int line) {
            return Math.abs(journal.dayOf(leg) - lines.day[line]);
        }

        private void bindNearest(int line, int days) {
            int best = NONE;
            for (int leg = 0; leg < journal.legCount; leg++) {
                if (isLegLeft(leg, lines.account[line]) && journal.amount[leg] == lines.amount[line]
                        && away(leg, line) <= days && (best == NONE || isNearer(leg, best, line))) {
                    best = leg;
                }
            }
            if (best != NONE) {
                bind(line, best, NONE);
            }
        }

        private boolean isNearer(int leg, int other, int line) {
            int legAway = away(leg, line);
            int otherAway = away(other, line);
            return legAway < otherAway
                    || legAway == otherAway && journal.dayOf(leg) < journal.dayOf(other);
        }

        private void bindFirstTwo(int line, int days) {
            for (int leg = 0; leg < journal.legCount; leg++) {
                if (isLegLeft(leg, lines.account[line]) && away(leg, line) <= days) {
                    int second = secondBehind(leg, line);
                    if (second != NONE) {
                        bind(line, leg, second);
                        return;
                    }
                }
            }
        }

        private int secondBehind(int first, int line) {
            for (int leg = first + 1; leg < journal.legCount; leg++) {
                if (isLegLeft(leg, lines.account[line]) && journal.dayOf(leg) == journal.dayOf(first)
                        && journal.amount[first] + journal.amount[leg] == lines.amount[line]) {
                    return leg;
                }
            }
            return NONE;
        }

        private void bind(int line, int first, int second) {
            firstOfLine[line] = first;
            secondOfLine[line] = second;
            lineOfLeg[first] = line;
            if (second != NONE) {
                lineOfLeg[second] = line;
            }
        }

        private void freeLine(int line) {
            if (firstOfLine[line] != NONE) {
                lineOfLeg[firstOfLine[line]] = NONE;
            }
            if (secondOfLine[line] != NONE) {
                lineOfLeg[secondOfLine[line]] = NONE;
            }
            firstOfLine[line] = NONE;
            secondOfLine[line] = NONE;
        }

        void freeLegsOf(int entry) {
            int first = journal.firstLeg[entry];
            for (int leg = first; leg < first + journal.legsOf[entry]; leg++) {
                if (lineOfLeg[leg] != NONE) {
                    freeLine(lineOfLeg[leg]);
                }
            }
        }

        int linesLeft(int account) {
            int left = 0;
            for (int line = 0; line < lines.count; line++) {
                if (isLeft(line, account)) {
                    left++;
                }
            }
            return left;
        }

        long lineSumLeft(int account) {
            long sum = 0;
            for (int line = 0; line < lines.count; line++) {
                if (isLeft(line, account)) {
                    sum += lines.amount[line];
                }
            }
            return sum;
        }

        int legsLeft(int account) {
            int left = 0;
            for (int leg = 0; leg < journal.legCount; leg++) {
                if (isLegLeft(leg, account)) {
                    left++;
                }
            }
            return left;
        }

        long legSumLeft(int account) {
            long sum = 0;
            for (int leg = 0; leg < journal.legCount; leg++) {
                if (isLegLeft(leg, account)) {
                    sum += journal.amount[leg];
                }
            }
            return sum;
        }
    }
}
