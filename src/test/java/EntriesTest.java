/** Promises 7 to 13: draft, leg, post, reason, turnBack, ofEntry, ofLeg. */
public final class EntriesTest {
    private static final Check check = new Check("EntriesTest");

    public static void main(String[] args) {
        draft();
        leg();
        post();
        postOnAnyDay();
        draftIsNotCounted();
        reasonsInOrder();
        reasonWorths();
        exchangeNeedsTwoCurrencies();
        exchangeLimit();
        exchangeOnFloor();
        exchangeBelowZero();
        floors();
        floorsOfOtherKinds();
        floorsAndHolds();
        floorsOfRepeatedAccounts();
        draftStays();
        entriesFull();
        turnBack();
        turnBackAgain();
        turnBackRefused();
        turnBackRounded();
        ofEntry();
        ofLeg();
        check.end();
    }

    // Promise 7
    private static void draft() {
        Tollgate x = Ledgers.ofAllKinds();
        check.refused("draft on day -1", x, Check.ARGUMENT, () -> x.draft(-1, 0));
        check.refused("draft on day 365", x, Check.ARGUMENT, () -> x.draft(365, 0));
        check.refused("draft with note -1", x, Check.ARGUMENT, () -> x.draft(0, -1));
        check.refused("draft with note 1000", x, Check.ARGUMENT, () -> x.draft(0, 1000));
        check.same("still no draft", x.reason(), 1);
        check.same("the first draft forgets none", x.draft(364, 999), 0);
        x.leg(0, 1);
        x.leg(4, -1);
        x.leg(4, -1);
        check.refused("draft refused", x, Check.ARGUMENT, () -> x.draft(0, 1000));
        check.same("forgotten legs", x.draft(3, 5), 3);
        check.same("the new one is without legs", x.leg(0, 5), 5);
        x.leg(4, -5);
        x.post();
        check.same("day of the second draft", x.ofEntry(0, 0), 3);
        check.same("note of the second draft", x.ofEntry(0, 1), 5);
        check.same("legs of the second draft", x.ofEntry(0, 2), 2);
        check.same("none forgotten after a post", x.draft(0, 0), 0);
    }

    // Promise 8
    private static void leg() {
        Tollgate x = Ledgers.ofAllKinds();
        check.refused("leg without draft", x, Check.STATE, () -> x.leg(0, 1));
        check.refused("leg: argument ahead of state", x, Check.ARGUMENT, () -> x.leg(0, 0));
        check.refused("leg: index ahead of argument", x, Check.INDEX, () -> x.leg(5, 0));
        x.draft(0, 0);
        check.refused("leg on account -1", x, Check.INDEX, () -> x.leg(-1, 1));
        check.refused("leg on account 5", x, Check.INDEX, () -> x.leg(5, 1));
        check.refused("leg of 0", x, Check.ARGUMENT, () -> x.leg(0, 0));
        check.refused("leg of 1000001", x, Check.ARGUMENT, () -> x.leg(0, 1000001));
        check.refused("leg of -1000001", x, Check.ARGUMENT, () -> x.leg(0, -1000001));
        check.refused("leg of the least int", x, Check.ARGUMENT, () -> x.leg(0, Integer.MIN_VALUE));
        check.same("leg of 1000000", x.leg(0, 1000000), 1000000);
        check.same("leg of -1000000", x.leg(4, -1000000), 0);
        check.same("third leg", x.leg(0, 10), 10);
        check.same("fourth leg", x.leg(0, 10), 20);
        check.same("fifth leg", x.leg(1, -15), 5);
        check.same("sixth leg", x.leg(1, -5), 0);
        check.refused("seventh leg", x, Check.STATE, () -> x.leg(1, 1));
        check.same("the six can be posted", x.post(), 0);
        check.same("six legs", x.ofEntry(0, 2), 6);
        check.refused("leg after the post", x, Check.STATE, () -> x.leg(1, 1));
    }

    // Promise 9
    private static void post() {
        Tollgate x = Ledgers.ofAllKinds();
        check.refused("post without draft", x, Check.STATE, x::post);
        x.draft(0, 0);
        check.refused("post without legs", x, Check.STATE, x::post);
        x.leg(0, 5);
        check.refused("post with one leg", x, Check.STATE, x::post);
        x.leg(4, -4);
        check.refused("post of 5 against 4", x, Check.STATE, x::post);
        x.leg(2, -1);
        check.same("post", x.post(), 0);
        check.same("no draft any more", x.reason(), 1);
        check.refused("post again", x, Check.STATE, x::post);
        check.same("the next number", Ledgers.post(x, 0, 0, 0, 1, 4, -1), 1);
        check.same("two entries", x.many(1), 2);
        check.same("balance", x.told(0, 0), 6);
        check.same("not gone", x.ofEntry(0, 3), 0);
    }

    private static void postOnAnyDay() {
        Tollgate x = Ledgers.ofAllKinds();
        x.pass(10);
        check.same("post behind today", Ledgers.post(x, 364, 0, 0, 1, 4, -1), 0);
        check.same("post ahead of today", Ledgers.post(x, 0, 0, 0, 1, 4, -1), 1);
    }

    private static void draftIsNotCounted() {
        Tollgate x = Ledgers.ofAllKinds();
        Ledgers.drafted(x, 0, 0, 0, 5, 4, -5);
        check.same("a draft is not in the balance", x.told(0, 0), 0);
        check.same("a draft is no entry", x.many(1), 0);
        check.same("a draft's legs are not left", x.left(0, 2), 0);
    }

    // Promise 10
    private static void reasonsInOrder() {
        Tollgate x = Ledgers.withThousand();
        x.floor(0, 1000);
        x.close(0, 4);
        Ledgers.fillEntries(x, 60, 1, 2);
        check.same("60 entries", x.many(1), 60);
        check.same("reason 1", x.reason(), 1);
        x.draft(0, 0);
        check.same("reason 2 without legs", x.reason(), 2);
        x.leg(0, -5);
        check.same("reason 2 with one", x.reason(), 2);
        x.leg(4, 4);
        check.same("reason 3 ahead of 4, 5, 6", x.reason(), 3);
        Ledgers.drafted(x, 1, 0, 0, -5, 4, 4);
        check.same("reason 4 ahead of 5, 6", x.reason(), 4);
        x.leg(4, 1);
        check.same("reason 5 ahead of 6", x.reason(), 5);
        x.leg(0, 5);
        x.leg(4, -5);
        check.same("reason 6", x.reason(), 6);
        check.refused("post with reason 6", x, Check.STATE, x::post);
        Tollgate y = Ledgers.ofAllKinds();
        Ledgers.drafted(y, 0, 0, 0, 5, 4, -5);
        check.same("reason 0", y.reason(), 0);
        check.same("reason changes nothing", y.reason(), 0);
        check.unchanged("reason", y, y::reason);
    }

    private static void reasonWorths() {
        Tollgate x = Ledgers.ofAllKinds();
        x.exchange(4);
        Ledgers.drafted(x, 0, 0, 0, 1, 4, -2);
        check.same("one currency: no exchange", x.reason(), 4);
        Tollgate y = new Tollgate();
        y.rate(1, 1250);
        y.account(0, 0);
        y.account(0, 1);
        Ledgers.drafted(y, 0, 0, 1, 3, 0, -3);
        check.same("two currencies, no account exchange", y.reason(), 4);
        y.exchange(0);
        check.same("two currencies and the account exchange", y.reason(), 0);
        y.post();
        check.same("the leg more", y.ofEntry(0, 2), 3);
        check.same("its account", y.ofLeg(0, 2, 0), 0);
        check.same("its amount", y.ofLeg(0, 2, 1), -1);
        check.same("its worth", y.ofLeg(0, 2, 2), -1);
        check.same("the worths are 0 together", y.ofKind(0), 0);
        Ledgers.drafted(y, 0, 0, 1, 4, 0, -5);
        check.same("a sum of 0", y.post(), 1);
        check.same("no leg more with a sum of 0", y.ofEntry(1, 2), 2);
    }

    private static void exchangeNeedsTwoCurrencies() {
        Tollgate x = new Tollgate();
        x.rate(1, 1250);
        x.account(0, 0);
        x.account(0, 1);
        x.account(0, 1);
        x.exchange(0);
        Ledgers.drafted(x, 0, 0, 1, 3, 2, -2);
        check.same("one currency that is not 0", x.reason(), 4);
        x.leg(0, -1);
        check.same("two currencies", x.reason(), 0);
        x.draft(0, 0);
        x.leg(0, -3);
        x.leg(0, -1);
        x.leg(1, 4);
        check.same("the last leg's currency counts as well", x.reason(), 0);
    }

    private static void exchangeLimit() {
        Tollgate x = new Tollgate();
        x.account(0, 0);
        x.account(0, 1);
        x.account(4, 0);
        x.exchange(2);
        Ledgers.drafted(x, 0, 0, 1, 12, 0, -10);
        check.same("2 away with 2 legs", x.reason(), 0);
        Ledgers.drafted(x, 0, 0, 1, 13, 0, -10);
        check.same("3 away with 2 legs", x.reason(), 4);
        Ledgers.drafted(x, 0, 0, 1, 10, 0, -12);
        check.same("-2 away with 2 legs", x.reason(), 0);
        Ledgers.drafted(x, 0, 0, 1, 10, 0, -13);
        check.same("-3 away with 2 legs", x.reason(), 4);
        Ledgers.drafted(x, 0, 0, 1, 10, 0, -1, 0, -1, 0, -1, 0, -1);
        check.same("6 away with 5 legs", x.reason(), 4);
        x.leg(0, -1);
        check.same("5 away with 6 legs", x.reason(), 0);
        check.same("six legs and one", x.post(), 0);
        check.same("seven legs", x.ofEntry(0, 2), 7);
        check.same("the seventh", x.ofLeg(0, 6, 1), -5);
    }

    private static void exchangeOnFloor() {
        Tollgate x = new Tollgate();
        x.account(0, 0);
        x.account(0, 1);
        x.account(0, 0);
        x.exchange(2);
        x.floor(2, 0);
        Ledgers.drafted(x, 0, 0, 1, 11, 0, -10);
        check.same("the leg more breaks the floor of exchange", x.reason(), 5);
        Ledgers.drafted(x, 0, 0, 1, 10, 0, -11);
        check.same("the leg more keeps the floor of exchange", x.reason(), 0);
        Ledgers.drafted(x, 0, 0, 1, 10, 2, -10);
        check.same("a leg on exchange, without one more", x.reason(), 5);
    }

    private static void exchangeBelowZero() {
        Tollgate x = new Tollgate();
        x.account(0, 0);
        x.account(0, 1);
        x.exchange(0);
        x.floor(0, -10);
        Ledgers.drafted(x, 0, 0, 1, 11, 0, -10);
        check.same("draft and exchange on one account are taken together", x.reason(), 5);
        Ledgers.drafted(x, 0, 0, 1, 10, 0, -11);
        check.same("the leg more mends the floor", x.reason(), 0);
    }

    private static void floors() {
        Tollgate x = Ledgers.withThousand();
        x.floor(0, 600);
        Ledgers.drafted(x, 0, 0, 0, -400, 3, 400);
        check.same("to the floor", x.reason(), 0);
        Ledgers.drafted(x, 0, 0, 0, -401, 3, 401);
        check.same("below the floor", x.reason(), 5);
        check.refused("post below the floor", x, Check.STATE, x::post);
        Tollgate y = Ledgers.ofAllKinds();
        Ledgers.post(y, 364, 0, 0, 50, 4, -50);
        y.floor(0, 50);
        Ledgers.drafted(y, 0, 0, 0, -1, 3, 1);
        check.same("legs of the last day are in the stand", y.reason(), 5);
        Ledgers.post(y, 0, 0, 0, 1, 3, -1);
        Ledgers.drafted(y, 0, 0, 0, -1, 3, 1);
        check.same("legs of any day as well", y.reason(), 0);
    }

    private static void floorsOfOtherKinds() {
        Tollgate x = Ledgers.ofAllKinds();
        for (int kind = 0; kind <= 4; kind++) {
            x.floor(kind, -10);
        }
        Tollgate y = Ledgers.ofAllKinds();
        y.account(4, 0);
        for (int kind = 0; kind <= 4; kind++) {
            y.floor(kind, -10);
            int down = kind == 0 || kind == 3 ? -1 : 1;
            Ledgers.drafted(y, 0, 0, kind, 10 * down, 5, -10 * down);
            check.same("floor of kind " + kind + ", kept", y.reason(), 0);
            Ledgers.drafted(y, 0, 0, kind, 11 * down, 5, -11 * down);
            check.same("floor of kind " + kind + ", broken", y.reason(), 5);
            Ledgers.drafted(y, 0, 0, kind, -11 * down, 5, 11 * down);
            check.same("floor of kind " + kind + ", upwards", y.reason(), 0);
        }
    }

    private static void floorsAndHolds() {
        Tollgate x = Ledgers.withThousand();
        x.floor(0, 100);
        x.hold(0, 300, 1);
        Ledgers.drafted(x, 0, 0, 0, -600, 3, 600);
        check.same("the floor and what is held are kept", x.reason(), 0);
        Ledgers.drafted(x, 0, 0, 0, -601, 3, 601);
        check.same("what is held is not kept", x.reason(), 5);
        x.pass(1);
        check.same("the hold on its last day", x.reason(), 5);
        x.pass(1);
        check.same("the hold behind its last day", x.reason(), 0);
    }

    private static void floorsOfRepeatedAccounts() {
        Tollgate x = Ledgers.withThousand();
        x.floor(0, 1000);
        Ledgers.drafted(x, 0, 0, 0, -5, 3, 5, 0, 5, 3, -5);
        check.same("legs of one account are taken together", x.reason(), 0);
        Ledgers.drafted(x, 0, 0, 0, -5, 3, 5, 0, 4, 3, -4);
        check.same("and not kept together", x.reason(), 5);
    }

    private static void draftStays() {
        Tollgate x = Ledgers.withThousand();
        x.hold(0, 10, 5);
        Ledgers.drafted(x, 3, 8, 0, 5, 4, -5);
        x.turnBack(0);
        x.take(0, 1, 5);
        x.close(0, 4);
        x.open();
        check.same("the draft stays", x.reason(), 0);
        check.same("and is posted", x.post(), 4);
        check.same("its day", x.ofEntry(4, 0), 3);
        check.same("its note", x.ofEntry(4, 1), 8);
        check.same("its legs", x.ofEntry(4, 2), 2);
    }

    private static void entriesFull() {
        Tollgate x = Ledgers.ofAllKinds();
        x.close(0, 4);
        x.open();
        Ledgers.fillEntries(x, 60, 0, 0);
        check.same("one is gone", x.many(1), 59);
        Ledgers.drafted(x, 0, 0, 0, 1, 4, -1);
        check.same("entries that are gone count as well", x.reason(), 6);
    }

    // Promise 11
    private static void turnBack() {
        Tollgate x = Ledgers.withThousand();
        x.pass(4);
        check.same("turnBack", x.turnBack(0), 1);
        check.same("of today", x.ofEntry(1, 0), 4);
        check.same("with the note", x.ofEntry(1, 1), 7);
        check.same("with as many legs", x.ofEntry(1, 2), 2);
        check.same("account of leg 0", x.ofLeg(1, 0, 0), 0);
        check.same("amount of leg 0", x.ofLeg(1, 0, 1), -1000);
        check.same("worth of leg 0", x.ofLeg(1, 0, 2), -1000);
        check.same("account of leg 1", x.ofLeg(1, 1, 0), 4);
        check.same("amount of leg 1", x.ofLeg(1, 1, 1), 1000);
        check.same("the first stays", x.ofEntry(0, 3), 0);
        check.same("the balance is 0", x.told(0, 0), 0);
        check.refused("turnBack -1", x, Check.INDEX, () -> x.turnBack(-1));
        check.refused("turnBack of none", x, Check.INDEX, () -> x.turnBack(2));
    }

    private static void turnBackAgain() {
        Tollgate x = Ledgers.withThousand();
        x.turnBack(0);
        check.same("turned back twice", x.turnBack(0), 2);
        check.same("that is less", x.told(0, 0), -1000);
        check.same("what was turned back is turned back", x.turnBack(1), 3);
        check.same("that is more", x.told(0, 0), 0);
    }

    private static void turnBackRefused() {
        Tollgate x = Ledgers.withThousand();
        int closing = x.close(0, 4);
        check.refused("turnBack of a closing", x, Check.STATE, () -> x.turnBack(closing));
        check.refused("turnBack, today locked", x, Check.STATE, () -> x.turnBack(0));
        x.pass(1);
        check.refused("turnBack of a closing, later", x, Check.STATE, () -> x.turnBack(closing));
        check.same("turnBack of a locked day", x.turnBack(0), 2);
        x.open();
        check.refused("turnBack of one that is gone", x, Check.INDEX, () -> x.turnBack(closing));
        Tollgate y = Ledgers.withThousand();
        y.floor(0, 1);
        check.refused("turnBack below a floor", y, Check.STATE, () -> y.turnBack(0));
        y.floor(0, 0);
        check.same("turnBack to the floor", y.turnBack(0), 1);
        Tollgate z = Ledgers.withThousand();
        z.floor(0, 0);
        z.hold(0, 1, 364);
        check.refused("turnBack of what is held", z, Check.STATE, () -> z.turnBack(0));
        z.letGo(0);
        Ledgers.fillEntries(z, 59, 0, 2);
        check.same("turnBack as the sixtieth", z.turnBack(1), 59);
        check.refused("turnBack as the sixty-first", z, Check.STATE, () -> z.turnBack(1));
    }

    private static void turnBackRounded() {
        Tollgate x = new Tollgate();
        x.rate(1, 1500);
        x.account(0, 0);
        x.account(0, 1);
        x.account(4, 0);
        x.exchange(2);
        Ledgers.post(x, 0, 0, 1, 3, 0, -4);
        x.exchange(0);
        x.turnBack(0);
        check.same("worth with the other sign", x.ofLeg(1, 0, 2), -5);
        check.same("the leg of exchange stays where it was", x.ofLeg(1, 2, 0), 2);
        check.same("and is turned", x.ofLeg(1, 2, 1), 1);
        check.same("no leg more", x.ofEntry(1, 2), 3);
        check.same("all worths are back", x.told(1, 2), 0);
    }

    // Promise 12
    private static void ofEntry() {
        Tollgate x = Ledgers.ofAllKinds();
        check.refused("ofEntry of none", x, Check.INDEX, () -> x.ofEntry(0, 0));
        Ledgers.post(x, 9, 99, 0, 4, 1, -3, 2, -1);
        check.same("day", x.ofEntry(0, 0), 9);
        check.same("note", x.ofEntry(0, 1), 99);
        check.same("legs", x.ofEntry(0, 2), 3);
        check.same("gone", x.ofEntry(0, 3), 0);
        check.refused("ofEntry -1", x, Check.INDEX, () -> x.ofEntry(-1, 0));
        check.refused("ofEntry 1", x, Check.INDEX, () -> x.ofEntry(1, 0));
        check.refused("ofEntry: index ahead of argument", x, Check.INDEX, () -> x.ofEntry(1, 4));
        check.refused("ofEntry what 4", x, Check.ARGUMENT, () -> x.ofEntry(0, 4));
        check.refused("ofEntry what -1", x, Check.ARGUMENT, () -> x.ofEntry(0, -1));
        x.pass(9);
        x.close(9, 4);
        x.open();
        check.same("day of one that is gone", x.ofEntry(1, 0), 9);
        check.same("gone: 1", x.ofEntry(1, 3), 1);
    }

    // Promise 13
    private static void ofLeg() {
        Tollgate x = new Tollgate();
        x.rate(2, 2500);
        x.account(0, 2);
        x.account(2, 2);
        x.account(4, 0);
        Ledgers.post(x, 0, 0, 0, 3, 1, -3);
        check.same("account", x.ofLeg(0, 1, 0), 1);
        check.same("amount", x.ofLeg(0, 1, 1), -3);
        check.same("worth", x.ofLeg(0, 1, 2), -8);
        check.same("no line", x.ofLeg(0, 1, 3), -1);
        x.line(2, 0, 1);
        x.line(1, 0, -3);
        x.match(1, 0);
        check.same("its line", x.ofLeg(0, 1, 3), 1);
        check.same("the other leg's line", x.ofLeg(0, 0, 3), -1);
        check.refused("ofLeg of entry -1", x, Check.INDEX, () -> x.ofLeg(-1, 0, 0));
        check.refused("ofLeg of entry 1", x, Check.INDEX, () -> x.ofLeg(1, 0, 0));
        check.refused("ofLeg of leg -1", x, Check.INDEX, () -> x.ofLeg(0, -1, 0));
        check.refused("ofLeg of leg 2", x, Check.INDEX, () -> x.ofLeg(0, 2, 0));
        check.refused("ofLeg: index ahead of argument", x, Check.INDEX, () -> x.ofLeg(0, 2, 4));
        check.refused("ofLeg what 4", x, Check.ARGUMENT, () -> x.ofLeg(0, 0, 4));
        check.refused("ofLeg what -1", x, Check.ARGUMENT, () -> x.ofLeg(0, 0, -1));
        x.close(0, 2);
        x.open();
        check.same("leg of one that is gone: amount", x.ofLeg(1, 0, 1), 3);
        check.same("leg of one that is gone: worth", x.ofLeg(1, 0, 2), 8);
        check.same("leg of one that is gone: line", x.ofLeg(1, 0, 3), -1);
    }
}
