/** Promises 17 and 18: close, open. */
public final class ClosingTest {
    private static final Check check = new Check("ClosingTest");

    public static void main(String[] args) {
        close();
        closeRefused();
        closeLocks();
        closeOnlyUpToTheDay();
        closeWithoutLegs();
        closeInCurrencies();
        closeAgainstFloors();
        closeTheMostLegs();
        closeFarOffInt();
        closeAgain();
        open();
        openFreesLines();
        check.end();
    }

    private static Tollgate withResults() {
        Tollgate x = Ledgers.withThousand();
        Ledgers.post(x, 2, 0, 0, 300, 2, -300);
        Ledgers.post(x, 3, 0, 0, -100, 3, 100);
        x.pass(5);
        return x;
    }

    // Promise 17
    private static void close() {
        Tollgate x = withResults();
        check.same("close", x.close(4, 4), 3);
        check.same("its day", x.ofEntry(3, 0), 4);
        check.same("its note", x.ofEntry(3, 1), 0);
        check.same("its legs", x.ofEntry(3, 2), 3);
        check.same("leg 0: earn", x.ofLeg(3, 0, 0), 2);
        check.same("leg 0: amount", x.ofLeg(3, 0, 1), 300);
        check.same("leg 1: spend", x.ofLeg(3, 1, 0), 3);
        check.same("leg 1: amount", x.ofLeg(3, 1, 1), -100);
        check.same("leg 2: into", x.ofLeg(3, 2, 0), 4);
        check.same("leg 2: amount", x.ofLeg(3, 2, 1), -200);
        check.same("leg 2: worth", x.ofLeg(3, 2, 2), -200);
        check.same("own stands higher", x.told(4, 1), 1200);
        check.same("locked", x.many(5), 4);
    }

    private static void closeRefused() {
        Tollgate x = withResults();
        x.account(4, 1);
        check.refused("close into -1", x, Check.INDEX, () -> x.close(4, -1));
        check.refused("close into 6", x, Check.INDEX, () -> x.close(-1, 6));
        check.refused("close up to -1", x, Check.ARGUMENT, () -> x.close(-1, 4));
        check.refused("close behind today", x, Check.ARGUMENT, () -> x.close(6, 4));
        for (int kind = 0; kind <= 3; kind++) {
            int into = kind;
            check.refused("close into kind " + kind, x, Check.ARGUMENT, () -> x.close(4, into));
        }
        check.refused("close into another currency", x, Check.ARGUMENT, () -> x.close(4, 5));
        check.same("close up to today", x.close(5, 4), 3);
        check.refused("close a locked day", x, Check.STATE, () -> x.close(5, 4));
        check.refused("close ahead of a locked day", x, Check.STATE, () -> x.close(0, 4));
        check.refused("close: argument ahead of state", x, Check.ARGUMENT, () -> x.close(5, 0));
        Tollgate y = Ledgers.ofAllKinds();
        Ledgers.fillEntries(y, 59, 0, 0);
        check.same("close as the sixtieth", y.close(0, 4), 59);
        y.pass(1);
        check.refused("close as the sixty-first", y, Check.STATE, () -> y.close(1, 4));
        y.open();
        check.refused("close, though one is gone", y, Check.STATE, () -> y.close(1, 4));
    }

    private static void closeLocks() {
        Tollgate x = withResults();
        x.close(4, 4);
        Ledgers.drafted(x, 4, 0, 0, 1, 4, -1);
        check.same("the day is locked", x.reason(), 3);
        Ledgers.drafted(x, 0, 0, 0, 1, 4, -1);
        check.same("the days ahead of it are locked", x.reason(), 3);
        Ledgers.drafted(x, 5, 0, 0, 1, 4, -1);
        check.same("the day behind it is not", x.reason(), 0);
    }

    private static void closeOnlyUpToTheDay() {
        Tollgate x = withResults();
        x.close(2, 4);
        check.same("only earn", x.ofEntry(3, 2), 2);
        check.same("spend is not closed", x.told(3, 0), 100);
        check.same("earn is closed", x.told(2, 0), 0);
        x.close(3, 4);
        check.same("then only spend", x.ofEntry(4, 2), 2);
        check.same("account of its leg", x.ofLeg(4, 0, 0), 3);
        check.same("spend is closed", x.told(3, 0), 0);
    }

    private static void closeWithoutLegs() {
        Tollgate x = Ledgers.ofAllKinds();
        check.same("close without legs", x.close(0, 4), 0);
        check.same("no legs", x.ofEntry(0, 2), 0);
        check.same("an entry all the same", x.many(1), 1);
        check.same("locked all the same", x.many(5), 0);
        Tollgate y = Ledgers.ofAllKinds();
        Ledgers.post(y, 0, 0, 2, -7, 3, 7);
        y.close(0, 4);
        check.same("a sum of 0: no leg into", y.ofEntry(1, 2), 2);
    }

    private static void closeInCurrencies() {
        Tollgate x = new Tollgate();
        x.rate(1, 1500);
        x.account(0, 1);
        x.account(2, 1);
        x.account(4, 0);
        x.account(0, 0);
        Ledgers.post(x, 0, 0, 0, 1, 1, -1);
        Ledgers.post(x, 0, 0, 0, 1, 1, -1);
        Ledgers.post(x, 0, 0, 0, 1, 1, -1);
        check.same("worths of the legs, each rounded", x.told(1, 2), -6);
        x.close(0, 2);
        check.same("amount in its currency", x.ofLeg(3, 0, 1), 3);
        check.same("worth of the sum, rounded once", x.ofLeg(3, 0, 2), 5);
        check.same("into gets the worth", x.ofLeg(3, 1, 1), -5);
        check.same("balance is closed", x.told(1, 0), 0);
        check.same("worth is not", x.told(1, 2), -1);
    }

    private static void closeAgainstFloors() {
        Tollgate x = withResults();
        x.floor(2, 300);
        x.floor(3, 100);
        Ledgers.post(x, 5, 0, 3, 2000, 0, -2000);
        x.floor(4, 1000);
        check.same("floors are not asked for", x.close(5, 4), 4);
        check.same("earn is below its floor", x.told(2, 4), -300);
        check.same("own as well", x.told(4, 4), -1800);
        Ledgers.drafted(x, 6, 0, 2, -1, 0, 1);
        check.same("upwards, but not up to the floor", x.reason(), 5);
    }

    private static void closeTheMostLegs() {
        Tollgate x = new Tollgate();
        x.account(4, 0);
        for (int i = 0; i < 9; i++) {
            x.account(2 + i % 2, 0);
        }
        Ledgers.post(x, 0, 0, 0, 15, 1, -1, 2, -2, 3, -3, 4, -4, 5, -5);
        Ledgers.post(x, 0, 0, 0, 30, 6, -6, 7, -7, 8, -8, 9, -9);
        for (int i = 0; i < 58; i++) {
            check.same("ten legs", x.ofEntry(x.close(0, 0), 2), 10);
            check.same("the last", x.ofLeg(2 + i, 9, 1), -45);
            x.open();
        }
        check.same("two are left", x.many(1), 2);
        check.same("own", x.told(0, 0), 45);
        check.refused("no more", x, Check.STATE, () -> x.close(0, 0));
    }

    private static void closeFarOffInt() {
        Tollgate x = new Tollgate();
        x.rate(1, 100000);
        x.account(4, 0);
        x.account(2, 1);
        x.account(0, 1);
        for (int i = 0; i < 40; i++) {
            Ledgers.post(x, 0, 0, 1, -1000000, 1, -1000000, 2, 1000000, 2, 1000000);
        }
        check.same("a leg above int", x.ofLeg(x.close(0, 0), 1, 1), -8000000000L);
        check.same("own above int", x.told(0, 1), 8000000000L);
    }

    private static void closeAgain() {
        Tollgate x = withResults();
        x.close(4, 4);
        Ledgers.post(x, 5, 0, 0, 10, 2, -10);
        check.same("closed again", x.close(5, 4), 5);
        check.same("only what is new", x.ofLeg(5, 0, 1), 10);
        check.same("own", x.told(4, 1), 1210);
        check.same("locked", x.many(5), 5);
    }

    // Promise 18
    private static void open() {
        Tollgate x = withResults();
        check.refused("open, nothing closed", x, Check.STATE, x::open);
        x.close(1, 4);
        x.close(4, 4);
        check.same("opened", x.open(), 1);
        check.same("the last is gone", x.ofEntry(4, 3), 1);
        check.same("the first is not", x.ofEntry(3, 3), 0);
        check.same("gone counts for nothing", x.told(2, 1), 300);
        check.same("own as well", x.told(4, 1), 1000);
        Ledgers.drafted(x, 2, 0, 0, 1, 4, -1);
        check.same("open again", x.reason(), 0);
        Ledgers.drafted(x, 1, 0, 0, 1, 4, -1);
        check.same("but not ahead of that", x.reason(), 3);
        check.same("closed in between", x.close(2, 4), 5);
        check.same("opened that", x.open(), 1);
        check.same("opened all", x.open(), -1);
        check.refused("open again", x, Check.STATE, x::open);
        check.same("locked", x.many(5), -1);
        check.same("entries", x.many(1), 3);
    }

    private static void openFreesLines() {
        Tollgate x = withResults();
        x.close(5, 4);
        Ledgers.post(x, 6, 0, 0, 9, 2, -9);
        x.line(2, 5, 300);
        x.line(2, 6, -9);
        x.line(4, 5, -200);
        x.line(2, 2, -300);
        check.same("matched", x.match(2, 0), 3);
        x.match(4, 0);
        x.line(0, 6, 9);
        x.match(0, 0);
        check.same("the closing's leg is matched", x.ofLeg(3, 0, 3), 0);
        x.open();
        check.same("its line is not any more", x.matched(0), -1);
        check.same("nor that of the other account", x.matched(2), -1);
        check.same("nor the leg", x.ofLeg(3, 0, 3), -1);
        check.same("other lines are", x.matched(1), 4);
        check.same("and the leg behind the closing's last one", x.ofLeg(4, 0, 3), 4);
        check.same("and others", x.matched(3), 1);
        check.same("lines left", x.left(2, 1), 1);
        check.same("a leg that is gone is not left", x.left(2, 2), 0);
        Tollgate y = withResults();
        Ledgers.post(y, 5, 0, 0, 9, 2, -9);
        y.close(5, 4);
        y.line(2, 5, 300);
        check.same("two legs of one day", y.match(2, 0), 1);
        check.same("first the smaller entry", y.matched(0), 3);
        check.same("the other leg", y.ofLeg(3, 1, 3), 0);
        check.same("a leg of the closing", y.ofLeg(4, 0, 3), 0);
        y.open();
        check.same("the line is free", y.matched(0), -1);
        check.same("and the other leg", y.ofLeg(3, 1, 3), -1);
        check.same("and the leg that is gone", y.ofLeg(4, 0, 3), -1);
        check.same("legs left", y.left(2, 2), 2);
    }
}
