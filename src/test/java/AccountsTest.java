/** Promises 1 to 6: the constructor, rate, account, floor, exchange, pass. */
public final class AccountsTest {
    private static final Check check = new Check("AccountsTest");

    public static void main(String[] args) {
        newObject();
        rate();
        rateIsUsed();
        account();
        floor();
        floorAndHolds();
        floorReplaced();
        exchange();
        pass();
        check.end();
    }

    // Promise 1
    private static void newObject() {
        Tollgate x = new Tollgate();
        for (int what = 0; what <= 4; what++) {
            check.same("new: many(" + what + ")", x.many(what), 0);
        }
        check.same("new: many(5)", x.many(5), -1);
        check.same("new: reason()", x.reason(), 1);
        check.same("new: meanLegs()", x.meanLegs(), 0.0);
        Tollgate other = new Tollgate();
        other.account(0, 0);
        check.same("new: objects share nothing", x.many(0), 0);
    }

    // Promise 2
    private static void rate() {
        Tollgate x = new Tollgate();
        for (int currency = 1; currency <= 3; currency++) {
            check.same("rate: at first", x.rate(currency, 1), 1000);
            check.same("rate: the one before", x.rate(currency, 100000), 1);
            check.same("rate: the greatest before", x.rate(currency, 500 + currency), 100000);
        }
        check.same("rate: each its own", x.rate(1, 7), 501);
        check.refused("rate of 0", x, Check.ARGUMENT, () -> x.rate(0, 1000));
        check.refused("rate of 4", x, Check.ARGUMENT, () -> x.rate(4, 1000));
        check.refused("rate of -1", x, Check.ARGUMENT, () -> x.rate(-1, 1000));
        check.refused("rate 0", x, Check.ARGUMENT, () -> x.rate(1, 0));
        check.refused("rate 100001", x, Check.ARGUMENT, () -> x.rate(1, 100001));
        check.refused("rate of the least int", x, Check.ARGUMENT, () -> x.rate(Integer.MIN_VALUE, Integer.MIN_VALUE));
        x.account(0, 2);
        check.refused("rate of a used currency", x, Check.STATE, () -> x.rate(2, 9));
        check.refused("rate: argument ahead of state", x, Check.ARGUMENT, () -> x.rate(2, 0));
        check.same("rate: refused ones change nothing", x.rate(1, 8), 7);
        check.same("rate of another currency than the used one", x.rate(3, 9), 503);
    }

    private static void rateIsUsed() {
        Tollgate x = new Tollgate();
        x.rate(1, 1500);
        x.account(0, 0);
        x.account(0, 1);
        x.draft(0, 0);
        check.same("worth to the nearest, half away from 0", x.leg(1, 3), 5);
        check.same("worth below 0", x.leg(1, -3), 0);
        check.same("worth of 1", x.leg(1, 1), 2);
        check.same("worth of -1", x.leg(1, -1), 0);
        Tollgate y = new Tollgate();
        y.rate(2, 1499);
        y.account(0, 2);
        y.draft(0, 0);
        check.same("worth just below half", y.leg(0, 1), 1);
        check.same("worth just below half, below 0", y.leg(0, -1), 0);
        Tollgate z = new Tollgate();
        z.rate(3, 100000);
        z.rate(2, 1);
        z.account(0, 3);
        z.account(0, 2);
        z.draft(0, 0);
        check.same("the greatest worth", z.leg(0, 1000000), 100000000L);
        check.same("the least worth", z.leg(0, -1000000), 0);
        check.same("a worth that is 0", z.leg(1, 499), 0);
        check.same("a worth that is just 1", z.leg(1, 500), 1);
        check.same("a worth that is just -1", z.leg(1, -500), 0);
        check.same("a worth below 0 that is 0", z.leg(1, -499), 0);
    }

    // Promise 3
    private static void account() {
        Tollgate x = new Tollgate();
        check.refused("account of kind -1", x, Check.ARGUMENT, () -> x.account(-1, 0));
        check.refused("account of kind 5", x, Check.ARGUMENT, () -> x.account(5, 0));
        check.refused("account in -1", x, Check.ARGUMENT, () -> x.account(0, -1));
        check.refused("account in 4", x, Check.ARGUMENT, () -> x.account(0, 4));
        for (int i = 0; i < 10; i++) {
            check.same("account's number", x.account(i % 5, i % 4), i);
        }
        check.same("ten accounts", x.many(0), 10);
        check.refused("the eleventh account", x, Check.STATE, () -> x.account(0, 0));
        check.refused("account: argument ahead of state", x, Check.ARGUMENT, () -> x.account(5, 0));
        check.refused("rate with ten accounts", x, Check.STATE, () -> x.rate(3, 9));
        Tollgate z = new Tollgate();
        for (int i = 0; i < 10; i++) {
            z.account(0, 0);
        }
        check.same("rate with ten accounts of another currency", z.rate(3, 9), 1000);
        Tollgate y = Ledgers.ofAllKinds();
        check.same("no floor at first: far below 0 can be posted",
                Ledgers.post(y, 0, 0, 0, -1000000, 4, 1000000), 0);
    }

    // Promise 4
    private static void floor() {
        Tollgate x = Ledgers.withThousand();
        check.refused("floor of account -1", x, Check.INDEX, () -> x.floor(-1, 0));
        check.refused("floor of account 5", x, Check.INDEX, () -> x.floor(5, 0));
        check.refused("floor: index ahead of argument", x, Check.INDEX, () -> x.floor(5, 100001));
        check.refused("floor 100001", x, Check.ARGUMENT, () -> x.floor(0, 100001));
        check.refused("floor -100001", x, Check.ARGUMENT, () -> x.floor(0, -100001));
        check.refused("floor above the stand", x, Check.STATE, () -> x.floor(0, 1001));
        check.same("floor at the stand answers the stand", x.floor(0, 1000), 1000);
        check.same("floor: the other sign of own", x.floor(4, 1000), 1000);
        check.same("had with floor", x.told(0, 4), 0);
        check.same("the least floor", x.floor(2, -100000), 0);
        check.refused("floor of own above its stand", x, Check.STATE, () -> x.floor(4, 1001));
        Tollgate y = Ledgers.ofAllKinds();
        Ledgers.post(y, 0, 0, 0, 100000, 4, -100000);
        check.same("the greatest floor", y.floor(0, 100000), 100000);
    }

    private static void floorAndHolds() {
        Tollgate x = Ledgers.withThousand();
        x.hold(0, 400, 2);
        check.refused("floor above what is not held", x, Check.STATE, () -> x.floor(0, 601));
        check.same("floor at what is not held", x.floor(0, 600), 1000);
        x.pass(3);
        check.same("floor: a hold that ended counts no more", x.floor(0, 1000), 1000);
    }

    private static void floorReplaced() {
        Tollgate x = Ledgers.withThousand();
        x.floor(0, 900);
        check.same("had with the first floor", x.told(0, 4), 100);
        x.floor(0, -50);
        check.same("had with a lower floor", x.told(0, 4), 1050);
        check.refused("a floor that is refused", x, Check.STATE, () -> x.floor(0, 2000));
        check.same("had after that", x.told(0, 4), 1050);
    }

    // Promise 5
    private static void exchange() {
        Tollgate x = new Tollgate();
        check.refused("exchange without accounts", x, Check.INDEX, () -> x.exchange(0));
        x.account(0, 0);
        x.account(0, 1);
        x.account(3, 0);
        check.refused("exchange -1", x, Check.INDEX, () -> x.exchange(-1));
        check.refused("exchange 3", x, Check.INDEX, () -> x.exchange(3));
        check.refused("exchange of another currency", x, Check.ARGUMENT, () -> x.exchange(1));
        check.same("exchange: none before", x.exchange(2), -1);
        check.refused("exchange of another currency, later", x, Check.ARGUMENT, () -> x.exchange(1));
        check.same("exchange: the one before", x.exchange(0), 2);
        check.same("exchange: the same again", x.exchange(0), 0);
    }

    // Promise 6
    private static void pass() {
        Tollgate x = new Tollgate();
        check.same("pass 0", x.pass(0), 0);
        check.same("pass 3", x.pass(3), 3);
        check.same("today", x.many(4), 3);
        check.refused("pass -1", x, Check.ARGUMENT, () -> x.pass(-1));
        check.refused("pass above 364", x, Check.ARGUMENT, () -> x.pass(362));
        check.refused("pass the greatest int", x, Check.ARGUMENT, () -> x.pass(Integer.MAX_VALUE));
        check.refused("pass the least int", x, Check.ARGUMENT, () -> x.pass(Integer.MIN_VALUE));
        check.same("pass to 364", x.pass(361), 364);
        check.refused("pass behind 364", x, Check.ARGUMENT, () -> x.pass(1));
        check.same("pass 0 at 364", x.pass(0), 364);
    }
}
