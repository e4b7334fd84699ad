/** Promises 28 to 32: hadOn, wouldMatch, wouldClose, meanLegs, digest. */
public final class WouldBeTest {
    private static final Check check = new Check("WouldBeTest");

    public static void main(String[] args) {
        hadOn();
        wouldMatch();
        wouldMatchChangesNothing();
        wouldClose();
        wouldCloseWithoutLeg();
        meanLegs();
        digest();
        check.end();
    }

    // Promise 28
    private static void hadOn() {
        Tollgate x = Ledgers.withThousand();
        Ledgers.post(x, 300, 0, 0, 5, 4, -5);
        x.pass(2);
        x.hold(0, 100, 4);
        x.hold(0, 30, 2);
        x.floor(0, 200);
        check.same("today", x.hadOn(0, 2), 675);
        check.same("a hold has ended", x.hadOn(0, 3), 705);
        check.same("the last day of the other", x.hadOn(0, 4), 705);
        check.same("all have ended", x.hadOn(0, 5), 805);
        check.same("the last day", x.hadOn(0, 364), 805);
        check.same("without a floor", x.hadOn(4, 364), 1005);
        check.same("today stays", x.many(4), 2);
        x.letGo(0);
        check.same("let go", x.hadOn(0, 2), 775);
        check.refused("hadOn of -1", x, Check.INDEX, () -> x.hadOn(-1, 2));
        check.refused("hadOn of 5", x, Check.INDEX, () -> x.hadOn(5, 365));
        check.refused("hadOn yesterday", x, Check.ARGUMENT, () -> x.hadOn(0, 1));
        check.refused("hadOn 365", x, Check.ARGUMENT, () -> x.hadOn(0, 365));
        check.unchanged("hadOn", x, () -> x.hadOn(0, 5));
    }

    // Promise 29
    private static void wouldMatch() {
        Tollgate x = Ledgers.withThousand();
        Ledgers.post(x, 4, 0, 0, 3, 0, 4, 4, -7);
        x.line(0, 2, 1000);
        x.line(0, 5, 7);
        check.same("within 0", x.wouldMatch(0, 0), 0);
        check.same("within 1", x.wouldMatch(0, 1), 1);
        check.same("within 30", x.wouldMatch(0, 30), 2);
        check.same("without lines", x.wouldMatch(1, 30), 0);
        check.refused("wouldMatch of -1", x, Check.INDEX, () -> x.wouldMatch(-1, 0));
        check.refused("wouldMatch of 5", x, Check.INDEX, () -> x.wouldMatch(5, 31));
        check.refused("wouldMatch within -1", x, Check.ARGUMENT, () -> x.wouldMatch(0, -1));
        check.refused("wouldMatch within 31", x, Check.ARGUMENT, () -> x.wouldMatch(0, 31));
    }

    private static void wouldMatchChangesNothing() {
        Tollgate x = Ledgers.withThousand();
        x.line(0, 2, 1000);
        check.same("would be", x.wouldMatch(0, 2), 1);
        check.same("is not", x.matched(0), -1);
        x.match(0, 2);
        check.same("would not be", x.wouldMatch(0, 0), 0);
        check.same("is", x.matched(0), 0);
        check.unchanged("wouldMatch", x, () -> x.wouldMatch(0, 0));
        Ledgers.post(x, 0, 0, 0, 20, 2, -20);
        x.close(0, 4);
        x.line(2, 0, 20);
        check.same("with a leg of a closing", x.wouldMatch(2, 0), 1);
        x.open();
        check.same("that is gone", x.wouldMatch(2, 0), 0);
        x.close(0, 4);
        check.same("with that of another closing", x.wouldMatch(2, 0), 1);
    }

    // Promise 30
    private static void wouldClose() {
        Tollgate x = Ledgers.withThousand();
        Ledgers.post(x, 2, 0, 0, 300, 2, -300);
        Ledgers.post(x, 9, 0, 0, -450, 3, 450);
        check.same("nothing yet", x.wouldClose(1), 0);
        check.same("behind today", x.wouldClose(2), -300);
        check.same("all", x.wouldClose(364), 150);
        check.unchanged("wouldClose", x, () -> x.wouldClose(364));
        x.pass(9);
        long due = x.wouldClose(9);
        check.same("as close does", x.ofLeg(x.close(9, 4), 2, 1), due);
        check.same("nothing more", x.wouldClose(9), 0);
        check.same("a locked day ahead of the closing", x.wouldClose(8), -300);
        check.refused("wouldClose -1", x, Check.ARGUMENT, () -> x.wouldClose(-1));
        check.refused("wouldClose 365", x, Check.ARGUMENT, () -> x.wouldClose(365));
        Tollgate y = new Tollgate();
        y.account(2, 0);
        y.account(0, 0);
        Ledgers.post(y, 0, 0, 0, -5, 1, 5);
        check.same("without an account to close into", y.wouldClose(0), -5);
        Ledgers.fillEntries(y, 60, 0, 1);
        check.same("with 60 entries", y.wouldClose(0), -5);
        Tollgate z = new Tollgate();
        z.rate(1, 1500);
        z.account(2, 1);
        z.account(0, 1);
        Ledgers.post(z, 0, 0, 0, -1, 1, 1);
        Ledgers.post(z, 0, 0, 0, -1, 1, 1);
        Ledgers.post(z, 0, 0, 0, -1, 1, 1);
        check.same("the worth of the sum, rounded once", z.wouldClose(0), -5);
    }

    private static void wouldCloseWithoutLeg() {
        Tollgate x = Ledgers.ofAllKinds();
        check.same("without legs", x.wouldClose(0), 0);
        Ledgers.post(x, 0, 0, 2, -7, 3, 7);
        check.same("a sum of 0", x.wouldClose(0), 0);
        Tollgate y = new Tollgate();
        for (int i = 0; i < 10; i++) {
            y.account(2 + i % 2, 0);
        }
        Ledgers.post(y, 0, 0, 0, 1, 1, 2, 2, 3, 3, 4, 4, -10);
        Ledgers.post(y, 0, 0, 5, 1, 6, 2, 7, 3, 8, 4, 9, -10);
        check.same("ten legs and none to close into", y.wouldClose(0), 0);
    }

    // Promise 31
    private static void meanLegs() {
        Tollgate x = Ledgers.ofAllKinds();
        check.same("without entries", x.meanLegs(), 0.0);
        Ledgers.post(x, 0, 0, 0, 3, 2, -3);
        check.same("two", x.meanLegs(), 2.0);
        Ledgers.post(x, 0, 0, 0, 3, 2, -2, 4, -1);
        check.same("not cut", x.meanLegs(), 2.5);
        x.close(0, 4);
        Ledgers.post(x, 1, 0, 0, 3, 2, -2, 4, -1);
        check.same("with the closing's two", x.meanLegs(), 2.5);
        x.open();
        check.same("without those that are gone", x.meanLegs(), 8.0 / 3);
        check.unchanged("meanLegs", x, x::meanLegs);
        Tollgate y = Ledgers.ofAllKinds();
        y.close(0, 4);
        check.same("an entry without legs", y.meanLegs(), 0.0);
        y.open();
        check.same("none that is not gone", y.meanLegs(), 0.0);
    }

    // Promise 32
    private static void digest() {
        long empty = 58089;
        long[] numbers = {0, 0, 0, 0, 0, -1, 1, 0, 0, 0, 0, 0, 0};
        for (long x : numbers) {
            empty = empty * 31 + x;
        }
        check.same("of a new ledger", new Tollgate().digest(), empty);
        Tollgate x = Ledgers.withThousand();
        x.rate(1, 1500);
        x.account(0, 1);
        x.hold(0, 10, 3);
        x.line(0, 2, 1000);
        x.line(4, 0, -1000);
        x.line(5, 0, 1);
        x.match(4, 0);
        Ledgers.post(x, 1, 3, 0, 40, 2, -40);
        x.pass(1);
        x.close(1, 4);
        x.open();
        Ledgers.drafted(x, 0, 0, 0, 1, 4, -1);
        check.same("of all that is asked", x.digest(), digestOf(x));
        check.same("again", x.digest(), digestOf(x));
        long before = x.digest();
        x.match(0, 2);
        check.holds("differs when a line is matched", before != x.digest());
    }

    static long digestOf(Tollgate x) {
        long d = 58089;
        for (int what = 0; what <= 5; what++) {
            d = d * 31 + x.many(what);
        }
        d = d * 31 + x.reason();
        for (int account = 0; account < x.many(0); account++) {
            for (int what = 0; what <= 4; what++) {
                d = d * 31 + x.told(account, what);
            }
            for (int what = 0; what <= 4; what++) {
                d = d * 31 + x.left(account, what);
            }
            d = d * 31 + x.wouldMatch(account, 3);
        }
        for (int entry = 0; isThere(x, entry); entry++) {
            for (int what = 0; what <= 3; what++) {
                d = d * 31 + x.ofEntry(entry, what);
            }
            for (int leg = 0; leg < x.ofEntry(entry, 2); leg++) {
                for (int what = 0; what <= 3; what++) {
                    d = d * 31 + x.ofLeg(entry, leg, what);
                }
            }
        }
        for (int line = 0; line < x.many(3); line++) {
            d = d * 31 + x.matched(line);
        }
        for (int kind = 0; kind <= 4; kind++) {
            d = d * 31 + x.ofKind(kind);
        }
        return d * 31 + x.wouldClose(x.many(4));
    }

    private static boolean isThere(Tollgate x, int entry) {
        try {
            x.ofEntry(entry, 0);
            return true;
        } catch (IndexOutOfBoundsException e) {
            return false;
        }
    }
}
