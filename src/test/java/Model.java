import java.util.ArrayList;
import java.util.Comparator;
import java.util.List;
import java.util.stream.Collectors;

/**
 * The document once more, written another way: every answer is worked out from lists of what happened,
 * with the Java library, so that a slip in Tollgate.java is unlikely to stand here too.
 */
final class Model {
    static final class Account {
        int number;
        int kind;
        int currency;
        Integer floor;
    }

    static final class Leg {
        Entry entry;
        int number;
        Account account;
        long amount;
        long worth;
    }

    static final class Entry {
        int number;
        int day;
        int note;
        boolean gone;
        boolean closing;
        int lockedBefore;
        List<Leg> legs = new ArrayList<>();
    }

    static final class Hold {
        Account account;
        int amount;
        int lastDay;
        boolean over;
    }

    static final class Line {
        int number;
        Account account;
        int day;
        int amount;
        List<Leg> with = new ArrayList<>();
    }

    private final int[] rates = {1000, 1000, 1000, 1000};
    private final List<Account> accounts = new ArrayList<>();
    private final List<Entry> entries = new ArrayList<>();
    private final List<Hold> holds = new ArrayList<>();
    private final List<Line> lines = new ArrayList<>();
    private final List<Entry> closings = new ArrayList<>();
    private Entry draft;
    private Account exchange;
    private int today = 0;
    private int locked = -1;

    int entriesEver() {
        return entries.size();
    }

    int holdsEver() {
        return holds.size();
    }

    /** The number of an account of that kind and, if there is one, the currency 0; any number without one. */
    int someOfKind(int kind, int otherwise) {
        return accounts.stream().filter(a -> a.kind == kind)
                .min(Comparator.comparingInt(a -> a.currency)).map(a -> a.number).orElse(otherwise);
    }

    /** The next account behind this one, around the end, that has its currency. */
    int nextAlike(int number) {
        for (int step = 1; in(number, 0, accounts.size() - 1) && step < accounts.size(); step++) {
            int next = (number + step) % accounts.size();
            if (accounts.get(next).currency == accounts.get(number).currency) {
                return next;
            }
        }
        return number;
    }

    private static void index(boolean ok) {
        if (!ok) {
            throw new IndexOutOfBoundsException();
        }
    }

    private static void argument(boolean ok) {
        if (!ok) {
            throw new IllegalArgumentException();
        }
    }

    private static void state(boolean ok) {
        if (!ok) {
            throw new IllegalStateException();
        }
    }

    private static boolean in(long x, long from, long to) {
        return from <= x && x <= to;
    }

    private Account theAccount(int number) {
        index(in(number, 0, accounts.size() - 1));
        return accounts.get(number);
    }

    private Entry theEntry(int number) {
        index(in(number, 0, entries.size() - 1));
        return entries.get(number);
    }

    private List<Leg> legsOn(Account account) {
        return entries.stream().filter(e -> !e.gone).flatMap(e -> e.legs.stream())
                .filter(l -> l.account == account).collect(Collectors.toList());
    }

    private long balance(Account account) {
        return legsOn(account).stream().mapToLong(l -> l.amount).sum();
    }

    private long stand(Account account) {
        return account.kind % 3 == 0 ? balance(account) : -balance(account);
    }

    private boolean isOpen(Hold hold, int day) {
        return !hold.over && hold.lastDay >= day;
    }

    private long held(Account account, int day) {
        return holds.stream().filter(h -> h.account == account && isOpen(h, day)).mapToLong(h -> h.amount).sum();
    }

    private long had(Account account, int day) {
        return stand(account) - held(account, day) - (account.floor == null ? 0 : account.floor);
    }

    private void addLeg(Entry entry, Account account, long amount) {
        Leg leg = new Leg();
        leg.entry = entry;
        leg.number = entry.legs.size();
        leg.account = account;
        leg.amount = amount;
        long thousandths = Math.abs(amount) * rates[account.currency];
        long whole = thousandths / 1000;
        if (thousandths % 1000 >= 500) {
            whole++;
        }
        leg.worth = amount < 0 ? -whole : whole;
        entry.legs.add(leg);
    }

    private static Entry newEntry(int day, int note) {
        Entry entry = new Entry();
        entry.day = day;
        entry.note = note;
        return entry;
    }

    private static long worths(Entry entry) {
        return entry.legs.stream().mapToLong(l -> l.worth).sum();
    }

    private void enter(Entry entry) {
        entry.number = entries.size();
        entries.add(entry);
    }

    /** Tries the entry as if it stood, and takes it away again. */
    private boolean floorsKept(Entry entry) {
        entries.add(entry);
        boolean kept = entry.legs.stream().map(l -> l.account)
                .allMatch(a -> a.floor == null || stand(a) - held(a, today) >= a.floor);
        entries.remove(entry);
        return kept;
    }

    int rate(int currency, int rate) {
        argument(in(currency, 1, 3) && in(rate, 1, 100000));
        state(accounts.stream().noneMatch(a -> a.currency == currency));
        int before = rates[currency];
        rates[currency] = rate;
        return before;
    }

    int account(int kind, int currency) {
        argument(in(kind, 0, 4) && in(currency, 0, 3));
        state(accounts.size() < 10);
        Account account = new Account();
        account.number = accounts.size();
        account.kind = kind;
        account.currency = currency;
        accounts.add(account);
        return account.number;
    }

    long floor(int number, int floor) {
        Account account = theAccount(number);
        argument(in(floor, -100000, 100000));
        state(stand(account) - held(account, today) >= floor);
        account.floor = floor;
        return stand(account);
    }

    int exchange(int number) {
        Account account = theAccount(number);
        argument(account.currency == 0);
        int before = exchange == null ? -1 : exchange.number;
        exchange = account;
        return before;
    }

    int pass(int days) {
        argument(days >= 0 && (long) today + days <= 364);
        today += days;
        return today;
    }

    int draft(int day, int note) {
        argument(in(day, 0, 364) && in(note, 0, 999));
        int forgotten = draft == null ? 0 : draft.legs.size();
        draft = newEntry(day, note);
        return forgotten;
    }

    long leg(int number, int amount) {
        Account account = theAccount(number);
        argument(amount != 0 && in(amount, -1000000, 1000000));
        state(draft != null && draft.legs.size() < 6);
        addLeg(draft, account, amount);
        return worths(draft);
    }

    private Entry evened() {
        Entry entry = newEntry(draft.day, draft.note);
        draft.legs.forEach(l -> addLeg(entry, l.account, l.amount));
        if (worths(draft) != 0) {
            addLeg(entry, exchange, -worths(draft));
        }
        return entry;
    }

    int reason() {
        if (draft == null) {
            return 1;
        }
        int legs = draft.legs.size();
        if (legs < 2) {
            return 2;
        }
        if (draft.day <= locked) {
            return 3;
        }
        long currencies = draft.legs.stream().map(l -> l.account.currency).distinct().count();
        if (worths(draft) != 0 && (currencies < 2 || exchange == null || !in(worths(draft), -legs, legs))) {
            return 4;
        }
        if (!floorsKept(evened())) {
            return 5;
        }
        return entries.size() < 60 ? 0 : 6;
    }

    int post() {
        state(reason() == 0);
        Entry entry = evened();
        enter(entry);
        draft = null;
        return entry.number;
    }

    int turnBack(int number) {
        Entry entry = theEntry(number);
        index(!entry.gone);
        Entry back = newEntry(today, entry.note);
        entry.legs.forEach(l -> addLeg(back, l.account, -l.amount));
        state(!entry.closing && today > locked && floorsKept(back) && entries.size() < 60);
        enter(back);
        return back.number;
    }

    int ofEntry(int number, int what) {
        Entry entry = theEntry(number);
        argument(in(what, 0, 3));
        return new int[] {entry.day, entry.note, entry.legs.size(), entry.gone ? 1 : 0}[what];
    }

    long ofLeg(int number, int legNumber, int what) {
        Entry entry = theEntry(number);
        index(in(legNumber, 0, entry.legs.size() - 1));
        argument(in(what, 0, 3));
        Leg leg = entry.legs.get(legNumber);
        long line = lines.stream().filter(l -> l.with.contains(leg)).mapToLong(l -> l.number).findFirst().orElse(-1);
        return new long[] {leg.account.number, leg.amount, leg.worth, line}[what];
    }

    int hold(int number, int amount, int lastDay) {
        Account account = theAccount(number);
        argument(account.kind == 0 && in(amount, 1, 1000000) && in(lastDay, today, 364));
        state(holds.size() < 20 && (account.floor == null || had(account, today) >= amount));
        Hold hold = new Hold();
        hold.account = account;
        hold.amount = amount;
        hold.lastDay = lastDay;
        holds.add(hold);
        return holds.size() - 1;
    }

    int take(int number, int to, int amount) {
        index(in(number, 0, holds.size() - 1));
        Hold hold = holds.get(number);
        Account other = theAccount(to);
        argument(other != hold.account && other.currency == hold.account.currency && in(amount, 1, hold.amount));
        state(isOpen(hold, today) && today > locked && entries.size() < 60);
        Entry entry = newEntry(today, 0);
        addLeg(entry, hold.account, -amount);
        addLeg(entry, other, amount);
        hold.over = true;
        if (!floorsKept(entry)) {
            hold.over = false;
            throw new IllegalStateException();
        }
        enter(entry);
        return entry.number;
    }

    int letGo(int number) {
        index(in(number, 0, holds.size() - 1));
        Hold hold = holds.get(number);
        state(isOpen(hold, today));
        hold.over = true;
        return hold.amount;
    }

    private Entry closing(int day) {
        Entry entry = newEntry(day, 0);
        for (Account account : accounts) {
            if (account.kind == 2 || account.kind == 3) {
                long sum = at(account.number, day);
                if (sum != 0) {
                    addLeg(entry, account, -sum);
                }
            }
        }
        return entry;
    }

    int close(int day, int into) {
        Account account = theAccount(into);
        argument(in(day, 0, today) && account.kind == 4 && account.currency == 0);
        state(day > locked && entries.size() < 60);
        Entry entry = closing(day);
        if (worths(entry) != 0) {
            addLeg(entry, account, -worths(entry));
        }
        entry.closing = true;
        entry.lockedBefore = locked;
        locked = day;
        closings.add(entry);
        enter(entry);
        return entry.number;
    }

    int open() {
        state(!closings.isEmpty());
        Entry entry = closings.remove(closings.size() - 1);
        entry.gone = true;
        locked = entry.lockedBefore;
        lines.stream().filter(l -> l.with.stream().anyMatch(entry.legs::contains)).forEach(l -> l.with.clear());
        return locked;
    }

    int line(int number, int day, int amount) {
        Account account = theAccount(number);
        argument(in(day, 0, 364) && amount != 0 && in(amount, -1000000, 1000000));
        state(lines.size() < 40);
        Line line = new Line();
        line.number = lines.size();
        line.account = account;
        line.day = day;
        line.amount = amount;
        lines.add(line);
        return line.number;
    }

    private List<Line> linesOf(Account account) {
        return lines.stream().filter(l -> l.account == account).collect(Collectors.toList());
    }

    private static int away(Leg leg, Line line) {
        return Math.abs(leg.entry.day - line.day);
    }

    /** What each line would be matched with; the lists are in the order of linesOf(account). */
    private List<List<Leg>> matching(Account account, int days) {
        List<Line> mine = linesOf(account);
        List<List<Leg>> found = new ArrayList<>();
        mine.forEach(l -> found.add(new ArrayList<>()));
        List<Leg> free = new ArrayList<>(legsOn(account));
        List<Line> sorted = mine.stream()
                .sorted(Comparator.comparingInt((Line l) -> l.day).thenComparingInt(l -> l.number))
                .collect(Collectors.toList());
        for (Line line : sorted) {
            free.stream().filter(l -> l.amount == line.amount && away(l, line) <= days)
                    .min(Comparator.comparingInt((Leg l) -> away(l, line)).thenComparingInt(l -> l.entry.day)
                            .thenComparingInt(l -> l.entry.number).thenComparingInt(l -> l.number))
                    .ifPresent(l -> {
                        found.get(mine.indexOf(line)).add(l);
                        free.remove(l);
                    });
        }
        for (Line line : sorted) {
            List<Leg> with = found.get(mine.indexOf(line));
            if (with.isEmpty()) {
                with.addAll(firstTwo(free, line, days));
                free.removeAll(with);
            }
        }
        return found;
    }

    private static List<Leg> firstTwo(List<Leg> free, Line line, int days) {
        List<List<Leg>> pairs = new ArrayList<>();
        for (int j = 0; j < free.size(); j++) {
            for (int i = 0; i < j; i++) {
                Leg one = free.get(i);
                Leg two = free.get(j);
                if (one.entry.day == two.entry.day && away(one, line) <= days
                        && one.amount + two.amount == line.amount) {
                    pairs.add(List.of(one, two));
                }
            }
        }
        return pairs.stream().min(Comparator.comparingInt((List<Leg> p) -> free.indexOf(p.get(0)))
                .thenComparingInt(p -> free.indexOf(p.get(1)))).orElse(List.of());
    }

    int match(int number, int days) {
        Account account = theAccount(number);
        argument(in(days, 0, 30));
        List<List<Leg>> found = matching(account, days);
        List<Line> mine = linesOf(account);
        for (int i = 0; i < mine.size(); i++) {
            mine.get(i).with = found.get(i);
        }
        return wouldMatch(number, days);
    }

    int wouldMatch(int number, int days) {
        Account account = theAccount(number);
        argument(in(days, 0, 30));
        return (int) matching(account, days).stream().filter(w -> !w.isEmpty()).count();
    }

    long left(int number, int what) {
        Account account = theAccount(number);
        argument(in(what, 0, 4));
        List<Line> mine = linesOf(account);
        List<Line> open = mine.stream().filter(l -> l.with.isEmpty()).collect(Collectors.toList());
        List<Leg> legs = legsOn(account);
        mine.forEach(l -> legs.removeAll(l.with));
        return new long[] {mine.size(), open.size(), legs.size(),
            open.stream().mapToLong(l -> l.amount).sum(), legs.stream().mapToLong(l -> l.amount).sum()}[what];
    }

    int matched(int number) {
        index(in(number, 0, lines.size() - 1));
        Line line = lines.get(number);
        return line.with.isEmpty() ? -1 : line.with.get(0).entry.number;
    }

    int many(int what) {
        argument(in(what, 0, 5));
        long standing = entries.stream().filter(e -> !e.gone).count();
        long open = holds.stream().filter(h -> isOpen(h, today)).count();
        return new int[] {accounts.size(), (int) standing, (int) open, lines.size(), today, locked}[what];
    }

    long told(int number, int what) {
        Account account = theAccount(number);
        argument(in(what, 0, 4));
        return new long[] {balance(account), stand(account),
            legsOn(account).stream().mapToLong(l -> l.worth).sum(), held(account, today),
            had(account, today)}[what];
    }

    long at(int number, int day) {
        Account account = theAccount(number);
        argument(in(day, 0, 364));
        return legsOn(account).stream().filter(l -> l.entry.day <= day).mapToLong(l -> l.amount).sum();
    }

    long ofKind(int kind) {
        argument(in(kind, 0, 4));
        return accounts.stream().filter(a -> a.kind == kind).mapToLong(a -> told(a.number, 2)).sum();
    }

    long earned(int from, int to) {
        argument(in(from, 0, 364) && in(to, 0, 364));
        return -accounts.stream().filter(a -> a.kind == 2 || a.kind == 3).flatMap(a -> legsOn(a).stream())
                .filter(l -> !l.entry.closing && in(l.entry.day, from, to)).mapToLong(l -> l.worth).sum();
    }

    long hadOn(int number, int day) {
        Account account = theAccount(number);
        argument(in(day, today, 364));
        return had(account, day);
    }

    long wouldClose(int day) {
        argument(in(day, 0, 364));
        return -worths(closing(day));
    }

    double meanLegs() {
        return entries.stream().filter(e -> !e.gone).mapToInt(e -> e.legs.size()).average().orElse(0);
    }

    long digest() {
        List<Long> numbers = new ArrayList<>();
        for (int what = 0; what <= 5; what++) {
            numbers.add((long) many(what));
        }
        numbers.add((long) reason());
        for (Account account : accounts) {
            for (int what = 0; what <= 4; what++) {
                numbers.add(told(account.number, what));
            }
            for (int what = 0; what <= 4; what++) {
                numbers.add(left(account.number, what));
            }
            numbers.add((long) wouldMatch(account.number, 3));
        }
        for (Entry entry : entries) {
            for (int what = 0; what <= 3; what++) {
                numbers.add((long) ofEntry(entry.number, what));
            }
            for (Leg leg : entry.legs) {
                for (int what = 0; what <= 3; what++) {
                    numbers.add(ofLeg(entry.number, leg.number, what));
                }
            }
        }
        lines.forEach(l -> numbers.add((long) matched(l.number)));
        for (int kind = 0; kind <= 4; kind++) {
            numbers.add(ofKind(kind));
        }
        numbers.add(wouldClose(today));
        return numbers.stream().reduce(58089L, (d, x) -> d * 31 + x);
    }
}
