import java.util.ArrayList;
import java.util.List;

/**
 * Promises 1 to 32 against the model: runs of 512 calls, made from a counted-on number (the same ones each
 * time), with small, edge and wild arguments; every answer and every exception must be the model's.
 */
public final class ModelTest {
    private static final Check check = new Check("ModelTest");
    private static final int RUNS = 400;
    private static final int CALLS = 512;
    private static final int[] WILD = {Integer.MIN_VALUE, -1000001, -1000000, -100001, -100000, -1, 0, 1, 2, 5, 6,
        9, 10, 19, 20, 30, 31, 39, 40, 59, 60, 364, 365, 999, 1000, 100000, 100001, 1000000, 1000001,
        Integer.MAX_VALUE};

    private interface Call {
        double answer();
    }

    private final int run;
    private final Tollgate ledger = new Tollgate();
    private final Model model = new Model();
    private final List<String> told = new ArrayList<>();
    private long seed;
    private boolean isWrong = false;

    private ModelTest(int run) {
        this.run = run;
        this.seed = run * 7919L + 13;
    }

    public static void main(String[] args) {
        for (int run = 0; run < RUNS; run++) {
            new ModelTest(run).go();
        }
        check.end();
    }

    /** From 0 to below bound. */
    private int pick(int bound) {
        seed = seed * 6364136223846793005L + 1442695040888963407L;
        return (int) ((seed >>> 33) % bound);
    }

    private int usual(int from, int to) {
        return pick(60) == 0 ? WILD[pick(WILD.length)] : from + pick(to - from + 1);
    }

    private int account() {
        return usual(0, Math.max(0, model.many(0) - 1));
    }

    private int accountOf(int kind) {
        return pick(12) == 0 ? account() : model.someOfKind(kind, account());
    }

    /** Mostly a number that is there, at times the one behind the last. */
    private int numberBelow(int count) {
        return usual(0, Math.max(0, pick(12) == 0 ? count : count - 1));
    }

    private int day() {
        return pick(3) > 0 ? usual(0, 12) : usual(Math.max(0, model.many(4) - 3), Math.min(364, model.many(4) + 3));
    }

    private int amount() {
        return pick(4) == 0 ? usual(-300, 300) : usual(-4, 4);
    }

    private void go() {
        setUp();
        if (run % 4 == 0) {
            fill();
        }
        while (told.size() < CALLS && !isWrong) {
            step();
            if (told.size() % 16 == 0) {
                ask("digest()", ledger::digest, model::digest);
            }
        }
    }

    private void setUp() {
        for (int currency = 1; currency <= 3; currency++) {
            int c = currency;
            int rate = new int[] {1000, 1500, 333, 1, 100000, 2499}[pick(6)];
            ask("rate(" + c + ", " + rate + ")", () -> ledger.rate(c, rate), () -> model.rate(c, rate));
        }
        int count = 3 + pick(7);
        for (int i = 0; i < count; i++) {
            int kind = i < 5 && pick(4) > 0 ? (4 + i) % 5 : usual(0, 4);
            int currency = pick(3) == 0 ? usual(0, 3) : 0;
            ask("account(" + kind + ", " + currency + ")",
                    () -> ledger.account(kind, currency), () -> model.account(kind, currency));
        }
    }

    /** So that the run comes to 60 entries. */
    private void fill() {
        ask("draft(0, 1)", () -> ledger.draft(0, 1), () -> model.draft(0, 1));
        leg(0, 3);
        leg(0, -3);
        ask("post()", ledger::post, model::post);
        int times = 30 + pick(28);
        for (int i = 0; i < times; i++) {
            ask("turnBack(0)", () -> ledger.turnBack(0), () -> model.turnBack(0));
        }
    }

    private void step() {
        switch (pick(run % 3 == 0 ? 12 : 16)) {
            case 0:
                oneDraft();
                break;
            case 1:
            case 2:
                evenEntry();
                break;
            case 3:
                shape();
                break;
            case 4:
            case 5:
                holdsAndTurns();
                break;
            case 6:
                closings();
                break;
            case 7:
            case 8:
                statements();
                break;
            case 9:
                wildCall();
                break;
            default:
                asking();
        }
    }

    private void oneDraft() {
        int d = day();
        int note = usual(0, 999);
        ask("draft(" + d + ", " + note + ")", () -> ledger.draft(d, note), () -> model.draft(d, note));
        int legs = pick(8);
        for (int i = 0; i < legs; i++) {
            leg(account(), amount());
        }
        post();
    }

    private void evenEntry() {
        int d = pick(3) == 0 ? day() : Math.min(364, model.many(5) + 1 + pick(4));
        int note = usual(0, 999);
        ask("draft(" + d + ", " + note + ")", () -> ledger.draft(d, note), () -> model.draft(d, note));
        int pairs = 1 + pick(3);
        for (int i = 0; i < pairs; i++) {
            int amount = amount();
            int first = account();
            leg(first, amount);
            leg(pick(4) == 0 ? account() : model.nextAlike(first), -amount + (pick(8) == 0 ? pick(5) - 2 : 0));
        }
        post();
    }

    private void leg(int account, int amount) {
        ask("leg(" + account + ", " + amount + ")", () -> ledger.leg(account, amount),
                () -> model.leg(account, amount));
    }

    private void post() {
        ask("reason()", ledger::reason, model::reason);
        if (pick(6) > 0) {
            ask("post()", ledger::post, model::post);
        }
    }

    private void shape() {
        int a = account();
        int x = usual(-20, 20);
        switch (pick(5)) {
            case 0:
            case 1:
                ask("floor(" + a + ", " + x + ")", () -> ledger.floor(a, x), () -> model.floor(a, x));
                break;
            case 2:
                ask("exchange(" + a + ")", () -> ledger.exchange(a), () -> model.exchange(a));
                break;
            case 3:
                int days = pick(20) == 0 ? usual(0, 300) : pick(3);
                ask("pass(" + days + ")", () -> ledger.pass(days), () -> model.pass(days));
                break;
            default:
                int kind = usual(0, 4);
                int currency = usual(0, 3);
                ask("account(" + kind + ", " + currency + ")",
                        () -> ledger.account(kind, currency), () -> model.account(kind, currency));
        }
    }

    private void holdsAndTurns() {
        int a = account();
        int h = numberBelow(model.holdsEver());
        int amount = usual(1, 5);
        switch (pick(5)) {
            case 0:
            case 1:
                int last = usual(model.many(4), Math.min(364, model.many(4) + 4));
                int of = accountOf(0);
                ask("hold(" + of + ", " + amount + ", " + last + ")",
                        () -> ledger.hold(of, amount, last), () -> model.hold(of, amount, last));
                break;
            case 2:
                ask("take(" + h + ", " + a + ", " + amount + ")",
                        () -> ledger.take(h, a, amount), () -> model.take(h, a, amount));
                break;
            case 3:
                ask("letGo(" + h + ")", () -> ledger.letGo(h), () -> model.letGo(h));
                break;
            default:
                int entry = numberBelow(model.entriesEver());
                ask("turnBack(" + entry + ")", () -> ledger.turnBack(entry), () -> model.turnBack(entry));
        }
    }

    private void closings() {
        if (pick(3) == 0) {
            ask("open()", ledger::open, model::open);
            return;
        }
        int d = pick(6) == 0 ? day() : Math.min(model.many(4), model.many(5) + pick(4));
        int into = accountOf(4);
        ask("close(" + d + ", " + into + ")", () -> ledger.close(d, into), () -> model.close(d, into));
    }

    private void statements() {
        int a = account();
        int within = usual(0, 5);
        if (pick(2) == 0) {
            ask("match(" + a + ", " + within + ")", () -> ledger.match(a, within), () -> model.match(a, within));
            return;
        }
        if (model.entriesEver() > 0 && pick(4) > 0) {
            lineLikeAnEntry(pick(model.entriesEver()));
        } else {
            line(a, day(), amount());
        }
    }

    /** A line near the entry's day: of one leg's amount, or that of two. */
    private void lineLikeAnEntry(int entry) {
        int legs = model.ofEntry(entry, 2);
        if (legs == 0) {
            return;
        }
        int leg = pick(legs);
        int account = (int) model.ofLeg(entry, leg, 0);
        long amount = model.ofLeg(entry, leg, 1);
        int other = pick(model.entriesEver());
        if (pick(2) == 0 && model.ofEntry(other, 2) > 0) {
            amount += model.ofLeg(other, pick(model.ofEntry(other, 2)), 1);
        }
        int day = Math.max(0, Math.min(364, model.ofEntry(entry, 0) + pick(5) - 2));
        line(account, day, (int) amount);
    }

    private void line(int account, int day, int amount) {
        ask("line(" + account + ", " + day + ", " + amount + ")",
                () -> ledger.line(account, day, amount), () -> model.line(account, day, amount));
    }

    private void asking() {
        int a = account();
        int d = day();
        int what = usual(0, 5);
        int entry = numberBelow(model.entriesEver());
        int leg = usual(0, 2);
        int line = numberBelow(model.many(3));
        switch (pick(14)) {
            case 0:
                ask("ofEntry", () -> ledger.ofEntry(entry, what), () -> model.ofEntry(entry, what));
                break;
            case 1:
                ask("ofLeg", () -> ledger.ofLeg(entry, leg, what), () -> model.ofLeg(entry, leg, what));
                break;
            case 2:
                ask("left", () -> ledger.left(a, what), () -> model.left(a, what));
                break;
            case 3:
                ask("matched", () -> ledger.matched(line), () -> model.matched(line));
                break;
            case 4:
                ask("many", () -> ledger.many(what), () -> model.many(what));
                break;
            case 5:
                ask("told", () -> ledger.told(a, what), () -> model.told(a, what));
                break;
            case 6:
                ask("at", () -> ledger.at(a, d), () -> model.at(a, d));
                break;
            case 7:
                ask("ofKind", () -> ledger.ofKind(what), () -> model.ofKind(what));
                break;
            case 8:
                int to = day();
                ask("earned", () -> ledger.earned(d, to), () -> model.earned(d, to));
                break;
            case 9:
                int later = usual(model.many(4), Math.min(364, model.many(4) + 5));
                ask("hadOn", () -> ledger.hadOn(a, later), () -> model.hadOn(a, later));
                break;
            case 10:
                ask("wouldMatch", () -> ledger.wouldMatch(a, what), () -> model.wouldMatch(a, what));
                break;
            case 11:
                ask("wouldClose", () -> ledger.wouldClose(d), () -> model.wouldClose(d));
                break;
            case 12:
                ask("meanLegs", ledger::meanLegs, model::meanLegs);
                break;
            default:
                ask("reason", ledger::reason, model::reason);
        }
    }

    private void wildCall() {
        int a = WILD[pick(WILD.length)];
        int b = WILD[pick(WILD.length)];
        int c = WILD[pick(WILD.length)];
        String with = "(" + a + ", " + b + ", " + c + ")";
        switch (pick(26)) {
            case 0: ask("rate" + with, () -> ledger.rate(a, b), () -> model.rate(a, b)); break;
            case 1: ask("account" + with, () -> ledger.account(a, b), () -> model.account(a, b)); break;
            case 2: ask("floor" + with, () -> ledger.floor(a, b), () -> model.floor(a, b)); break;
            case 3: ask("exchange" + with, () -> ledger.exchange(a), () -> model.exchange(a)); break;
            case 4:
                // A long way to the last day would leave little to the rest of the run.
                int days = a > 5 && a <= 364 ? 365 : a;
                ask("pass" + with, () -> ledger.pass(days), () -> model.pass(days));
                break;
            case 5: ask("draft" + with, () -> ledger.draft(a, b), () -> model.draft(a, b)); break;
            case 6: ask("leg" + with, () -> ledger.leg(a, b), () -> model.leg(a, b)); break;
            case 7: ask("turnBack" + with, () -> ledger.turnBack(a), () -> model.turnBack(a)); break;
            case 8: ask("ofEntry" + with, () -> ledger.ofEntry(a, b), () -> model.ofEntry(a, b)); break;
            case 9: ask("ofLeg" + with, () -> ledger.ofLeg(a, b, c), () -> model.ofLeg(a, b, c)); break;
            case 10: ask("hold" + with, () -> ledger.hold(a, b, c), () -> model.hold(a, b, c)); break;
            case 11: ask("take" + with, () -> ledger.take(a, b, c), () -> model.take(a, b, c)); break;
            case 12: ask("letGo" + with, () -> ledger.letGo(a), () -> model.letGo(a)); break;
            case 13: ask("close" + with, () -> ledger.close(a, b), () -> model.close(a, b)); break;
            case 14: ask("line" + with, () -> ledger.line(a, b, c), () -> model.line(a, b, c)); break;
            case 15: ask("match" + with, () -> ledger.match(a, b), () -> model.match(a, b)); break;
            case 16: ask("left" + with, () -> ledger.left(a, b), () -> model.left(a, b)); break;
            case 17: ask("matched" + with, () -> ledger.matched(a), () -> model.matched(a)); break;
            case 18: ask("many" + with, () -> ledger.many(a), () -> model.many(a)); break;
            case 19: ask("told" + with, () -> ledger.told(a, b), () -> model.told(a, b)); break;
            case 20: ask("at" + with, () -> ledger.at(a, b), () -> model.at(a, b)); break;
            case 21: ask("ofKind" + with, () -> ledger.ofKind(a), () -> model.ofKind(a)); break;
            case 22: ask("earned" + with, () -> ledger.earned(a, b), () -> model.earned(a, b)); break;
            case 23: ask("hadOn" + with, () -> ledger.hadOn(a, b), () -> model.hadOn(a, b)); break;
            case 24: ask("wouldMatch" + with, () -> ledger.wouldMatch(a, b), () -> model.wouldMatch(a, b)); break;
            default: ask("wouldClose" + with, () -> ledger.wouldClose(a), () -> model.wouldClose(a));
        }
    }

    private interface LongCall {
        long answer();
    }

    private void ask(String what, LongCall ours, LongCall due) {
        compare(what, outcome(ours), outcome(due));
    }

    private void ask(String what, Call ours, Call due) {
        compare(what, outcome(ours), outcome(due));
    }

    private static String outcome(LongCall call) {
        try {
            return Long.toString(call.answer());
        } catch (RuntimeException e) {
            return e.getClass().getName();
        }
    }

    private static String outcome(Call call) {
        try {
            return Double.toString(call.answer());
        } catch (RuntimeException e) {
            return e.getClass().getName();
        }
    }

    private void compare(String what, String got, String want) {
        told.add(what + " -> " + want);
        // What is answered behind the last call is free.
        if (isWrong || told.size() > CALLS) {
            return;
        }
        if (got.equals(want)) {
            check.holds(what, true);
            return;
        }
        isWrong = true;
        check.tell("run " + run + ", call " + told.size() + ": " + what + " answered " + got + ", due is " + want);
    }
}
