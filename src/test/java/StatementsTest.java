/** Promises 19 to 22: line, match, left, matched. */
public final class StatementsTest {
    private static final Check check = new Check("StatementsTest");

    public static void main(String[] args) {
        line();
        matchArguments();
        matchNearest();
        matchTies();
        matchOrderOfLines();
        matchTwo();
        matchTwoOrder();
        matchTwoSameDay();
        singlesAheadOfPairs();
        matchIsDoneAnew();
        matchStays();
        matchOnlyItsAccount();
        matchFarDays();
        left();
        matched();
        check.end();
    }

    /** Account 0 with one leg an entry; told as day, amount, day, amount .. */
    private static Tollgate withLegs(int... daysAndAmounts) {
        Tollgate x = Ledgers.ofAllKinds();
        for (int i = 0; i + 1 < daysAndAmounts.length; i += 2) {
            Ledgers.post(x, daysAndAmounts[i], 0, 0, daysAndAmounts[i + 1], 4, -daysAndAmounts[i + 1]);
        }
        return x;
    }

    // Promise 19
    private static void line() {
        Tollgate x = Ledgers.ofAllKinds();
        check.refused("line of account -1", x, Check.INDEX, () -> x.line(-1, 0, 1));
        check.refused("line of account 5", x, Check.INDEX, () -> x.line(5, -1, 0));
        check.refused("line on day -1", x, Check.ARGUMENT, () -> x.line(0, -1, 1));
        check.refused("line on day 365", x, Check.ARGUMENT, () -> x.line(0, 365, 1));
        check.refused("line of 0", x, Check.ARGUMENT, () -> x.line(0, 0, 0));
        check.refused("line of 1000001", x, Check.ARGUMENT, () -> x.line(0, 0, 1000001));
        check.refused("line of -1000001", x, Check.ARGUMENT, () -> x.line(0, 0, -1000001));
        check.same("line of 1000000", x.line(0, 0, 1000000), 0);
        check.same("line of -1000000", x.line(1, 364, -1000000), 1);
        for (int i = 2; i < 40; i++) {
            check.same("line's number", x.line(i % 5, i, i), i);
        }
        check.same("forty lines", x.many(3), 40);
        check.refused("line 41", x, Check.STATE, () -> x.line(0, 0, 1));
        check.refused("line: argument ahead of state", x, Check.ARGUMENT, () -> x.line(0, 0, 0));
        check.same("not matched at first", x.matched(0), -1);
    }

    // Promise 20
    private static void matchArguments() {
        Tollgate x = withLegs(0, 5);
        check.same("no lines", x.match(0, 30), 0);
        x.line(0, 0, 5);
        check.refused("match account -1", x, Check.INDEX, () -> x.match(-1, 0));
        check.refused("match account 5", x, Check.INDEX, () -> x.match(5, 31));
        check.refused("match within -1", x, Check.ARGUMENT, () -> x.match(0, -1));
        check.refused("match within 31", x, Check.ARGUMENT, () -> x.match(0, 31));
        check.same("match", x.match(0, 0), 1);
        check.refused("match refused keeps the matches", x, Check.ARGUMENT, () -> x.match(0, 31));
        check.same("still matched", x.matched(0), 0);
    }

    private static void matchNearest() {
        Tollgate x = withLegs(10, 5, 14, 5, 16, 5);
        x.line(0, 13, 5);
        check.same("within 0", x.match(0, 0), 0);
        check.same("within 1", x.match(0, 1), 1);
        check.same("the nearest", x.matched(0), 1);
        check.same("within 30", x.match(0, 30), 1);
        check.same("the nearest still", x.matched(0), 1);
        Tollgate y = withLegs(20, 6, 8, 5);
        y.line(0, 20, 5);
        check.same("another amount", y.match(0, 11), 0);
        check.same("just within", y.match(0, 12), 1);
        check.same("its entry", y.matched(0), 1);
    }

    private static void matchTies() {
        Tollgate x = withLegs(12, 5, 8, 5);
        x.line(0, 10, 5);
        x.match(0, 2);
        check.same("as near: the smallest day", x.matched(0), 1);
        Tollgate y = withLegs(12, 1, 8, 5, 8, 5);
        y.line(0, 10, 5);
        y.match(0, 2);
        check.same("the same day: the smallest entry", y.matched(0), 1);
        Tollgate z = Ledgers.ofAllKinds();
        Ledgers.post(z, 0, 0, 4, -10, 0, 5, 0, 5);
        z.line(0, 0, 5);
        z.match(0, 0);
        check.same("the same entry: the smallest leg", z.ofLeg(0, 1, 3), 0);
        check.same("not the other", z.ofLeg(0, 2, 3), -1);
    }

    private static void matchOrderOfLines() {
        Tollgate x = withLegs(10, 5, 12, 5);
        x.line(0, 12, 5);
        x.line(0, 11, 5);
        x.line(0, 11, 5);
        check.same("two of three", x.match(0, 1), 2);
        check.same("by days: the last day finds none", x.matched(0), -1);
        check.same("then by numbers: the first", x.matched(1), 0);
        check.same("then the second", x.matched(2), 1);
    }

    private static void matchTwo() {
        Tollgate x = withLegs(5, 3, 5, 4, 5, -1);
        x.line(0, 7, 7);
        x.line(0, 5, 100);
        check.same("too far", x.match(0, 1), 0);
        check.same("two together", x.match(0, 2), 1);
        check.same("the first of them", x.matched(0), 0);
        check.same("leg of the first", x.ofLeg(0, 0, 3), 0);
        check.same("leg of the second", x.ofLeg(1, 0, 3), 0);
        check.same("leg that is left", x.ofLeg(2, 0, 3), -1);
        check.same("legs left", x.left(0, 2), 1);
        Tollgate y = Ledgers.ofAllKinds();
        Ledgers.post(y, 0, 0, 0, 3, 0, 4, 4, -7);
        y.line(0, 0, 7);
        check.same("two of one entry", y.match(0, 0), 1);
        Tollgate z = Ledgers.ofAllKinds();
        Ledgers.post(z, 0, 0, 0, 3, 4, -3);
        z.line(0, 0, 6);
        check.same("not one leg twice", z.match(0, 0), 0);
    }

    private static void matchTwoOrder() {
        Tollgate x = withLegs(5, 1, 5, 2, 5, 8, 5, 9);
        x.line(0, 5, 10);
        x.match(0, 0);
        check.same("the first one first", x.ofLeg(0, 0, 3), 0);
        check.same("then its second", x.ofLeg(3, 0, 3), 0);
        check.same("not the inner two", x.ofLeg(1, 0, 3), -1);
        Tollgate y = withLegs(5, 6, 5, 4, 5, 4);
        y.line(0, 5, 10);
        y.match(0, 0);
        check.same("of two seconds the first", y.ofLeg(1, 0, 3), 0);
        check.same("not the other second", y.ofLeg(2, 0, 3), -1);
        Tollgate z = withLegs(9, 4, 5, 3, 9, 6, 5, 7);
        z.line(0, 5, 10);
        z.match(0, 4);
        check.same("by entries, not by the nearest day", z.matched(0), 0);
        Tollgate w = withLegs(5, 4, 5, 6, 5, 5, 5, 5);
        w.line(0, 6, 10);
        w.line(0, 5, 10);
        check.same("both lines", w.match(0, 1), 2);
        check.same("the line of the smaller day first", w.matched(1), 0);
        check.same("then the other", w.matched(0), 2);
    }

    private static void matchTwoSameDay() {
        Tollgate x = withLegs(5, 3, 6, 4);
        x.line(0, 5, 7);
        check.same("two days", x.match(0, 30), 0);
        Tollgate y = withLegs(4, 12, 4, -2);
        y.line(0, 5, 10);
        check.same("with the other sign", y.match(0, 1), 1);
    }

    private static void singlesAheadOfPairs() {
        Tollgate x = withLegs(5, 3, 5, 4);
        x.line(0, 5, 7);
        x.line(0, 6, 4);
        check.same("single ones first, also for later lines", x.match(0, 1), 1);
        check.same("the later line", x.matched(1), 1);
        check.same("not the pair", x.matched(0), -1);
        Tollgate y = withLegs(5, 3, 5, 4, 5, 7);
        y.line(0, 5, 7);
        y.match(0, 0);
        check.same("a single one ahead of a pair", y.matched(0), 2);
    }

    private static void matchIsDoneAnew() {
        Tollgate x = withLegs(5, 3, 5, 4, 9, 3);
        x.line(0, 5, 7);
        x.line(0, 9, 3);
        check.same("all", x.match(0, 0), 2);
        x.line(0, 5, 4);
        check.same("anew, with a line more", x.match(0, 0), 2);
        check.same("the pair is free", x.matched(0), -1);
        check.same("its first leg", x.ofLeg(0, 0, 3), -1);
        check.same("its second leg", x.ofLeg(1, 0, 3), 2);
        Tollgate y = withLegs(5, 3);
        y.line(0, 6, 3);
        y.match(0, 1);
        check.same("anew within less", y.match(0, 0), 0);
        check.same("not matched any more", y.matched(0), -1);
        check.same("nor the leg", y.ofLeg(0, 0, 3), -1);
    }

    private static void matchStays() {
        Tollgate x = withLegs(5, 3);
        x.line(0, 6, 3);
        x.match(0, 1);
        Ledgers.post(x, 6, 0, 0, 3, 4, -3);
        x.line(0, 5, 3);
        check.same("stays with a nearer leg", x.matched(0), 0);
        check.same("the new line is left", x.left(0, 1), 1);
        check.same("the new leg is left", x.left(0, 2), 1);
        x.turnBack(0);
        check.same("stays when turned back", x.matched(0), 0);
        check.same("done anew", x.match(0, 1), 2);
        check.same("then by the nearest", x.matched(0), 1);
    }

    private static void matchOnlyItsAccount() {
        Tollgate x = withLegs(5, 3);
        x.line(4, 5, 3);
        x.line(0, 5, -3);
        x.line(4, 5, -3);
        check.same("legs of another account", x.match(0, 30), 0);
        check.same("its own", x.match(4, 0), 1);
        x.line(0, 5, 3);
        check.same("another account's match", x.match(0, 0), 1);
        check.same("keeps the first one's", x.matched(2), 0);
        check.same("and its own", x.matched(3), 0);
    }

    private static void matchFarDays() {
        Tollgate x = withLegs(0, 5, 364, 6);
        x.line(0, 31, 5);
        x.line(0, 334, 6);
        check.same("30 away, not 31", x.match(0, 30), 1);
        check.same("the one 30 away", x.matched(1), 1);
    }

    // Promise 21
    private static void left() {
        Tollgate x = withLegs(0, 5, 0, 7, 0, -2);
        check.same("no lines", x.left(0, 0), 0);
        x.line(0, 0, 7);
        x.line(0, 0, -9);
        x.line(0, 0, 30);
        x.line(1, 0, 30);
        check.same("lines", x.left(0, 0), 3);
        check.same("lines left at first", x.left(0, 1), 3);
        check.same("legs left at first", x.left(0, 2), 3);
        check.same("sum of lines at first", x.left(0, 3), 28);
        check.same("sum of legs at first", x.left(0, 4), 10);
        x.match(0, 0);
        check.same("lines still", x.left(0, 0), 3);
        check.same("lines left", x.left(0, 1), 2);
        check.same("legs left", x.left(0, 2), 2);
        check.same("sum of lines", x.left(0, 3), 21);
        check.same("sum of legs", x.left(0, 4), 3);
        check.refused("left of -1", x, Check.INDEX, () -> x.left(-1, 0));
        check.refused("left of 5", x, Check.INDEX, () -> x.left(5, 5));
        check.refused("left what -1", x, Check.ARGUMENT, () -> x.left(0, -1));
        check.refused("left what 5", x, Check.ARGUMENT, () -> x.left(0, 5));
        Ledgers.post(x, 0, 0, 0, 50, 2, -50);
        x.close(0, 4);
        check.same("legs of a closing are left", x.left(2, 2), 2);
        check.same("their sum", x.left(2, 4), 0);
        x.open();
        check.same("not when they are gone", x.left(2, 2), 1);
        check.same("their sum then", x.left(2, 4), -50);
    }

    // Promise 22
    private static void matched() {
        Tollgate x = withLegs(0, 5, 0, 7);
        check.refused("matched without lines", x, Check.INDEX, () -> x.matched(0));
        x.line(0, 0, 7);
        x.line(0, 0, 8);
        x.match(0, 0);
        check.same("its entry", x.matched(0), 1);
        check.same("without one", x.matched(1), -1);
        check.refused("matched -1", x, Check.INDEX, () -> x.matched(-1));
        check.refused("matched 2", x, Check.INDEX, () -> x.matched(2));
    }
}
