/** Promises 23 to 27: many, told, at, ofKind, earned. */
public final class AskingTest {
    private static final Check check = new Check("AskingTest");

    public static void main(String[] args) {
        many();
        told();
        toldInCurrencies();
        at();
        ofKind();
        earned();
        check.end();
    }

    // Promise 23
    private static void many() {
        Tollgate x = Ledgers.withThousand();
        x.hold(0, 5, 3);
        x.hold(0, 5, 9);
        x.line(0, 0, 1);
        x.pass(4);
        x.close(2, 4);
        check.same("accounts", x.many(0), 5);
        check.same("entries", x.many(1), 2);
        check.same("open holds", x.many(2), 1);
        check.same("lines", x.many(3), 1);
        check.same("today", x.many(4), 4);
        check.same("locked", x.many(5), 2);
        x.open();
        check.same("entries without those that are gone", x.many(1), 1);
        check.same("none locked", x.many(5), -1);
        check.refused("many -1", x, Check.ARGUMENT, () -> x.many(-1));
        check.refused("many 6", x, Check.ARGUMENT, () -> x.many(6));
    }

    // Promise 24
    private static void told() {
        Tollgate x = Ledgers.ofAllKinds();
        Ledgers.post(x, 300, 0, 0, 10, 1, -1, 2, -2, 3, 3, 4, -10);
        int[] balances = {10, -1, -2, 3, -10};
        int[] stands = {10, 1, 2, 3, 10};
        for (int kind = 0; kind <= 4; kind++) {
            check.same("balance of kind " + kind, x.told(kind, 0), balances[kind]);
            check.same("stand of kind " + kind, x.told(kind, 1), stands[kind]);
            check.same("worth of kind " + kind, x.told(kind, 2), balances[kind]);
            check.same("held of kind " + kind, x.told(kind, 3), 0);
            check.same("had of kind " + kind, x.told(kind, 4), stands[kind]);
        }
        x.hold(0, 4, 5);
        x.hold(0, 3, 6);
        check.same("held", x.told(0, 3), 7);
        check.same("had, less what is held", x.told(0, 4), 3);
        x.floor(0, -50);
        check.same("had, less the floor", x.told(0, 4), 53);
        x.floor(1, 1);
        check.same("had of owe, less the floor", x.told(1, 4), 0);
        x.pass(6);
        check.same("held on the last day of one", x.told(0, 3), 3);
        check.same("had then", x.told(0, 4), 57);
        Ledgers.post(x, 364, 0, 0, 1, 4, -1);
        check.same("balance with a leg of the last day", x.told(0, 0), 11);
        check.same("stand with it", x.told(0, 1), 11);
        check.same("worth with it", x.told(0, 2), 11);
        check.refused("told of -1", x, Check.INDEX, () -> x.told(-1, 0));
        check.refused("told of 5", x, Check.INDEX, () -> x.told(5, 5));
        check.refused("told what -1", x, Check.ARGUMENT, () -> x.told(0, -1));
        check.refused("told what 5", x, Check.ARGUMENT, () -> x.told(0, 5));
    }

    private static void toldInCurrencies() {
        Tollgate x = new Tollgate();
        x.rate(1, 1500);
        x.account(0, 1);
        x.account(1, 1);
        Ledgers.post(x, 0, 0, 0, 1, 1, -1);
        Ledgers.post(x, 0, 0, 0, 1, 1, -1);
        check.same("worths, each rounded", x.told(0, 2), 4);
        check.same("below 0", x.told(1, 2), -4);
        check.same("balance", x.told(0, 0), 2);
        check.same("stand is no worth", x.told(1, 1), 2);
    }

    // Promise 25
    private static void at() {
        Tollgate x = Ledgers.ofAllKinds();
        Ledgers.post(x, 5, 0, 0, 10, 2, -10);
        Ledgers.post(x, 3, 0, 0, 7, 2, -7);
        Ledgers.post(x, 364, 0, 0, 100, 2, -100);
        check.same("ahead of all", x.at(0, 2), 0);
        check.same("on the first day", x.at(0, 3), 7);
        check.same("in between", x.at(0, 4), 7);
        check.same("on the second", x.at(0, 5), 17);
        check.same("ahead of the last", x.at(0, 363), 17);
        check.same("all", x.at(0, 364), 117);
        check.same("without the sign of the stand", x.at(2, 364), -117);
        check.same("without legs", x.at(1, 364), 0);
        x.pass(5);
        x.close(5, 4);
        check.same("a closing counts", x.at(2, 5), 0);
        check.same("ahead of the closing", x.at(2, 4), -7);
        x.open();
        check.same("one that is gone does not", x.at(2, 5), -17);
        check.refused("at of -1", x, Check.INDEX, () -> x.at(-1, 0));
        check.refused("at of 5", x, Check.INDEX, () -> x.at(5, 365));
        check.refused("at day -1", x, Check.ARGUMENT, () -> x.at(0, -1));
        check.refused("at day 365", x, Check.ARGUMENT, () -> x.at(0, 365));
    }

    // Promise 26
    private static void ofKind() {
        Tollgate x = new Tollgate();
        x.rate(1, 2000);
        x.account(0, 0);
        x.account(0, 1);
        x.account(2, 0);
        x.account(4, 0);
        Ledgers.post(x, 9, 0, 0, 4, 1, 5, 2, -14);
        check.same("worths of two accounts", x.ofKind(0), 14);
        check.same("with their sign", x.ofKind(2), -14);
        check.same("without accounts", x.ofKind(3), 0);
        check.same("without legs", x.ofKind(4), 0);
        x.pass(9);
        x.close(9, 3);
        check.same("closings count", x.ofKind(2), 0);
        check.same("and what they go into", x.ofKind(4), -14);
        x.open();
        check.same("not those that are gone", x.ofKind(2), -14);
        check.refused("ofKind -1", x, Check.ARGUMENT, () -> x.ofKind(-1));
        check.refused("ofKind 5", x, Check.ARGUMENT, () -> x.ofKind(5));
    }

    // Promise 27
    private static void earned() {
        Tollgate x = new Tollgate();
        x.rate(1, 2000);
        x.account(0, 0);
        x.account(2, 1);
        x.account(3, 0);
        x.account(4, 0);
        Ledgers.post(x, 2, 0, 0, 20, 1, -10);
        Ledgers.post(x, 4, 0, 0, -6, 2, 6);
        Ledgers.post(x, 4, 0, 0, -100, 3, 100);
        check.same("all days", x.earned(0, 364), 14);
        check.same("the first day", x.earned(2, 2), 20);
        check.same("the second day", x.earned(3, 4), -6);
        check.same("no such legs", x.earned(3, 3), 0);
        check.same("behind all", x.earned(5, 364), 0);
        check.same("to ahead of from", x.earned(4, 2), 0);
        x.pass(4);
        x.close(4, 3);
        check.same("closings do not count", x.earned(0, 364), 14);
        Ledgers.post(x, 5, 0, 0, 2, 1, -1);
        check.same("what is earned behind that", x.earned(0, 364), 16);
        x.pass(1);
        x.turnBack(1);
        check.same("turned back is earned", x.earned(5, 5), 8);
        Tollgate y = new Tollgate();
        y.account(2, 0);
        y.account(0, 0);
        y.account(3, 0);
        Ledgers.post(y, 364, 0, 0, -3, 1, 3);
        Ledgers.post(y, 364, 0, 2, 1, 1, -1);
        check.same("earned on the last day", y.earned(364, 364), 2);
        check.same("from the first to the last", y.earned(0, 364), 2);
        check.same("but the last", y.earned(0, 363), 0);
        check.refused("earned from -1", x, Check.ARGUMENT, () -> x.earned(-1, 5));
        check.refused("earned from 365", x, Check.ARGUMENT, () -> x.earned(365, 5));
        check.refused("earned to -1", x, Check.ARGUMENT, () -> x.earned(5, -1));
        check.refused("earned to 365", x, Check.ARGUMENT, () -> x.earned(5, 365));
    }
}
