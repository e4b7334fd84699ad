/** The boundary cases that the first term and promises 1 to 6 name, each by itself. */
public final class AccountsEdgesTest {
    private static final Edges edges = new Edges("AccountsEdgesTest");

    public static void main(String[] args) {
        lastCall();
        newObject();
        newObjectRefuses();
        rateArguments();
        rateOfUsedCurrency();
        worthToTheNearest();
        accountArguments();
        tenAccounts();
        accountHasNoFloor();
        floorArguments();
        floorAtTheStand();
        floorAndHeld();
        floorAboveInt();
        exchangeArguments();
        pass();
        edges.end();
    }

    // "An object is used for at most 512 calls": the last of them is answered as any.
    private static void lastCall() {
        edges.answers("the 512th call", () -> {
            Tollgate x = Ledgers.withThousand();
            // The ledger has had nine.
            for (int call = 10; call <= 511; call++) {
                x.pass(0);
            }
            return x;
        }, 1000, x -> x.told(0, 0));
    }

    // Promise 1: empty; no DAY is LOCKED
    private static void newObject() {
        for (int what = 0; what <= 4; what++) {
            int w = what;
            edges.tells("new: many " + what, Tollgate::new, 0, x -> x.many(w));
        }
        edges.tells("new: no day is locked", Tollgate::new, -1, x -> x.many(5));
        edges.answers("new: day 0 can be posted to", Ledgers::ofAllKinds, 0, x -> Ledgers.post(x, 0, 0, 0, 1, 4, -1));
        edges.answers("new: day 0 can be closed", Ledgers::ofAllKinds, 0, x -> x.close(0, 4));
        edges.tells("new: no draft", Tollgate::new, 1, Tollgate::reason);
        edges.answers("new: today is 0", Tollgate::new, 0, x -> x.pass(0));
        for (int currency = 1; currency <= 3; currency++) {
            int c = currency;
            edges.answers("new: rate of " + currency, Tollgate::new, 1000, x -> x.rate(c, 1));
        }
        edges.answers("new: no account exchange", Ledgers::ofAllKinds, -1, x -> x.exchange(0));
        for (int kind = 0; kind <= 4; kind++) {
            int k = kind;
            edges.tells("new: of kind " + kind, Tollgate::new, 0, x -> x.ofKind(k));
        }
        edges.tells("new: earned", Tollgate::new, 0, x -> x.earned(0, 364));
        edges.tells("new: would close", Tollgate::new, 0, x -> x.wouldClose(364));
        edges.tells("new: mean", Tollgate::new, 0, x -> Double.doubleToLongBits(x.meanLegs()));
    }

    private static void newObjectRefuses() {
        none("floor", x -> x.floor(0, 0));
        none("exchange", x -> x.exchange(0));
        none("leg", x -> x.leg(0, 1));
        none("turnBack", x -> x.turnBack(0));
        none("ofEntry", x -> x.ofEntry(0, 0));
        none("ofLeg", x -> x.ofLeg(0, 0, 0));
        none("hold", x -> x.hold(0, 1, 0));
        none("take", x -> x.take(0, 0, 1));
        none("letGo", x -> x.letGo(0));
        none("close", x -> x.close(0, 0));
        none("line", x -> x.line(0, 0, 1));
        none("match", x -> x.match(0, 0));
        none("left", x -> x.left(0, 0));
        none("matched", x -> x.matched(0));
        none("told", x -> x.told(0, 0));
        none("at", x -> x.at(0, 0));
        none("hadOn", x -> x.hadOn(0, 0));
        none("wouldMatch", x -> x.wouldMatch(0, 0));
        edges.refused("new: post", Tollgate::new, Edges.STATE, Tollgate::post);
        edges.refused("new: open", Tollgate::new, Edges.STATE, Tollgate::open);
    }

    private static void none(String name, Edges.Call call) {
        edges.refused("new: " + name, Tollgate::new, Edges.INDEX, call);
    }

    // Promise 2
    private static void rateArguments() {
        edges.range("rate: currency", Tollgate::new, 1, 3, Edges.ARGUMENT, (x, currency) -> x.rate(currency, 7));
        edges.range("rate: rate", Tollgate::new, 1, 100000, Edges.ARGUMENT, (x, rate) -> x.rate(2, rate));
        edges.refused("rate of 0, with its own rate", Tollgate::new, Edges.ARGUMENT, x -> x.rate(0, 1000));
        edges.answers("rate: the least is kept", AccountsEdgesTest::withRates, 1, x -> x.rate(1, 5));
        edges.answers("rate: the greatest is kept", AccountsEdgesTest::withRates, 100000, x -> x.rate(3, 5));
        edges.answers("rate: the others are kept", AccountsEdgesTest::withRates, 1000, x -> x.rate(2, 5));
        edges.answers("rate: the same again", AccountsEdgesTest::withRates, 1, x -> x.rate(1, 1));
    }

    private static Tollgate withRates() {
        Tollgate x = new Tollgate();
        x.rate(1, 1);
        x.rate(3, 100000);
        return x;
    }

    private static void rateOfUsedCurrency() {
        for (int currency = 1; currency <= 3; currency++) {
            int c = currency;
            Edges.Made made = () -> {
                Tollgate x = new Tollgate();
                x.account(4, c);
                return x;
            };
            edges.refused("rate: used, " + currency, made, Edges.STATE, x -> x.rate(c, 1));
            edges.refused("rate: used, argument first, " + currency, made, Edges.ARGUMENT, x -> x.rate(c, 0));
            edges.answers("rate: another one than the used " + currency, made, 1000, x -> x.rate(c % 3 + 1, 1));
        }
        edges.refused("rate: the tenth account's currency", () -> {
            Tollgate x = Ledgers.ofAllKinds();
            for (int i = 0; i < 4; i++) {
                x.account(0, 0);
            }
            x.account(0, 3);
            return x;
        }, Edges.STATE, x -> x.rate(3, 9));
        edges.answers("rate: accounts of 0 alone", Ledgers::ofAllKinds, 1000, x -> x.rate(1, 9));
        edges.answers("rate: ten accounts of 0 alone", () -> withAccounts(10), 1000, x -> x.rate(1, 9));
    }

    // The worth of a leg: to the nearest; of two as near, the one farther from 0
    private static void worthToTheNearest() {
        worth(500, 1, 1);
        worth(499, 1, 0);
        worth(500, -1, -1);
        worth(499, -1, 0);
        worth(1500, 1, 2);
        worth(1499, 1, 1);
        worth(1500, -1, -2);
        worth(1499, -1, -1);
        worth(2500, 1, 3);
        worth(2500, -1, -3);
        worth(1, 499, 0);
        worth(1, 500, 1);
        worth(1, -499, 0);
        worth(1, -500, -1);
        worth(1, 1499, 1);
        worth(1, 1500, 2);
        worth(1, 1000000, 1000);
        worth(1000, 1, 1);
        worth(1000, -1, -1);
        worth(99999, 1000000, 99999000);
        worth(100000, 1000000, 100000000);
        worth(100000, -1000000, -100000000);
    }

    private static void worth(int rate, int amount, long due) {
        Edges.Made made = () -> {
            Tollgate x = new Tollgate();
            x.rate(1, rate);
            x.account(0, 1);
            x.account(1, 1);
            x.draft(0, 0);
            return x;
        };
        edges.answers("worth of " + amount + " at " + rate, made, due, x -> x.leg(0, amount));
        edges.answers("worth of " + amount + " at " + rate + ", posted", made, due, x -> {
            x.leg(1, -amount);
            x.leg(0, amount);
            return x.ofLeg(x.post(), 1, 2);
        });
    }

    // Promise 3
    private static void accountArguments() {
        edges.range("account: kind", Tollgate::new, 0, 4, Edges.ARGUMENT, (x, kind) -> x.account(kind, 0));
        edges.range("account: currency", Tollgate::new, 0, 3, Edges.ARGUMENT, (x, currency) -> x.account(0, currency));
    }

    private static Tollgate withAccounts(int count) {
        Tollgate x = new Tollgate();
        for (int i = 0; i < count; i++) {
            x.account(i % 5, 0);
        }
        return x;
    }

    private static void tenAccounts() {
        edges.answers("account: the first", Tollgate::new, 0, x -> x.account(4, 3));
        edges.answers("account: the tenth", () -> withAccounts(9), 9, x -> x.account(0, 0));
        edges.refused("account: the eleventh", () -> withAccounts(10), Edges.STATE, x -> x.account(0, 0));
        edges.refused("account: full, kind first", () -> withAccounts(10), Edges.ARGUMENT, x -> x.account(5, 0));
        edges.refused("account: full, currency first", () -> withAccounts(10), Edges.ARGUMENT, x -> x.account(0, -1));
        edges.answers("account: the tenth is used", () -> withAccounts(10), 0, x -> x.told(9, 0));
    }

    private static void accountHasNoFloor() {
        for (int kind = 0; kind <= 4; kind++) {
            int k = kind;
            int down = kind == 0 || kind == 3 ? -1 : 1;
            edges.answers("account: no floor, of kind " + kind, () -> {
                Tollgate x = Ledgers.ofAllKinds();
                x.account(4, 0);
                Ledgers.post(x, 0, 0, k, down * 1000000, 5, down * -1000000);
                return x;
            }, -1000000, x -> x.told(k, 4));
        }
    }

    // Promise 4
    private static Tollgate withHundredThousand() {
        Tollgate x = Ledgers.ofAllKinds();
        Ledgers.post(x, 0, 0, 0, 100000, 4, -100000);
        return x;
    }

    private static void floorArguments() {
        Edges.Made made = AccountsEdgesTest::withHundredThousand;
        edges.range("floor: account", made, 0, 4, Edges.INDEX, (x, account) -> x.floor(account, -5));
        edges.range("floor: floor", made, -100000, 100000, Edges.ARGUMENT, (x, floor) -> x.floor(0, floor));
        edges.refused("floor: index ahead of argument", made, Edges.INDEX, x -> x.floor(5, 100001));
        edges.refused("floor: index ahead of argument, -1", made, Edges.INDEX, x -> x.floor(-1, -100001));
        edges.refused("floor: argument ahead of state", made, Edges.ARGUMENT, x -> x.floor(1, 100001));
    }

    private static void floorAtTheStand() {
        Edges.Made had = AccountsEdgesTest::withHundredThousand;
        edges.answers("floor: 1 below the stand", had, 100000, x -> x.floor(0, 99999));
        edges.answers("floor: at the stand", had, 100000, x -> x.floor(4, 100000));
        edges.answers("floor: at a stand of 0", had, 0, x -> x.floor(1, 0));
        edges.refused("floor: 1 above a stand of 0", had, Edges.STATE, x -> x.floor(1, 1));
        for (int kind = 0; kind <= 4; kind++) {
            int k = kind;
            for (int stand : new int[] {10, -10}) {
                Edges.Made made = () -> withStand(k, stand);
                edges.answers("floor: at " + stand + " of kind " + kind, made, stand, x -> x.floor(k, stand));
                edges.refused("floor: above " + stand + " of kind " + kind, made, Edges.STATE,
                        x -> x.floor(k, stand + 1));
            }
        }
        Edges.Made floored = () -> {
            Tollgate x = withHundredThousand();
            x.floor(0, 100000);
            return x;
        };
        edges.answers("floor: the same again", floored, 100000, x -> x.floor(0, 100000));
        edges.answers("floor: a lower one instead", floored, 200000, x -> {
            x.floor(0, -100000);
            return x.told(0, 4);
        });
    }

    private static Tollgate withStand(int account, int stand) {
        Tollgate x = Ledgers.ofAllKinds();
        x.account(4, 0);
        int amount = account == 0 || account == 3 ? stand : -stand;
        Ledgers.post(x, 364, 0, account, amount, 5, -amount);
        return x;
    }

    private static void floorAndHeld() {
        Edges.Made made = () -> {
            Tollgate x = withHundredThousand();
            x.hold(0, 60000, 3);
            x.pass(3);
            return x;
        };
        edges.answers("floor: what is not held, on the last day", made, 100000, x -> x.floor(0, 40000));
        edges.refused("floor: 1 above what is not held", made, Edges.STATE, x -> x.floor(0, 40001));
        edges.answers("floor: a day behind the last day", made, 100000, x -> {
            x.pass(1);
            return x.floor(0, 100000);
        });
        edges.answers("floor: let go", made, 100000, x -> {
            x.letGo(0);
            return x.floor(0, 100000);
        });
    }

    private static void floorAboveInt() {
        Edges.Made above = () -> Ledgers.closedAboveInt(1);
        edges.answers("floor: a stand above int", above, Ledgers.ABOVE_INT, x -> x.floor(0, 100000));
        edges.answers("floor: had above int", above, Ledgers.ABOVE_INT - 100000, x -> {
            x.floor(0, 100000);
            return x.told(0, 4);
        });
        edges.refused("floor: a stand below int", () -> Ledgers.closedAboveInt(-1), Edges.STATE,
                x -> x.floor(0, -100000));
    }

    // Promise 5
    private static void exchangeArguments() {
        edges.range("exchange: account", Ledgers::ofAllKinds, 0, 4, Edges.INDEX, Tollgate::exchange);
        for (int currency = 1; currency <= 3; currency++) {
            int c = currency;
            Edges.Made made = () -> {
                Tollgate x = Ledgers.ofAllKinds();
                x.account(0, c);
                return x;
            };
            edges.refused("exchange: an account in " + currency, made, Edges.ARGUMENT, x -> x.exchange(5));
            edges.refused("exchange: an account in " + currency + ", behind one", () -> {
                Tollgate x = made.ledger();
                x.exchange(2);
                return x;
            }, Edges.ARGUMENT, x -> x.exchange(5));
            edges.refused("exchange: behind the account in " + currency, made, Edges.INDEX, x -> x.exchange(6));
        }
        Edges.Made made = () -> {
            Tollgate x = Ledgers.ofAllKinds();
            x.exchange(0);
            return x;
        };
        edges.answers("exchange: account 0 was before", made, 0, x -> x.exchange(4));
        edges.answers("exchange: the same", made, 0, x -> x.exchange(0));
        edges.answers("exchange: the second one before", made, 4, x -> {
            x.exchange(4);
            return x.exchange(1);
        });
    }

    // Promise 6
    private static void pass() {
        edges.range("pass: from 0", Tollgate::new, 0, 364, Edges.ARGUMENT, Tollgate::pass);
        edges.range("pass: from 100", () -> onDay(100), 0, 264, Edges.ARGUMENT, Tollgate::pass);
        edges.range("pass: from 364", () -> onDay(364), 0, 0, Edges.ARGUMENT, Tollgate::pass);
        edges.answers("pass: none", () -> onDay(100), 100, x -> x.pass(0));
        edges.answers("pass: to the last", () -> onDay(100), 364, x -> x.pass(264));
        edges.answers("pass: all at once", Tollgate::new, 364, x -> x.pass(364));
        edges.tells("pass: none changes nothing", () -> onDay(364), 364, x -> x.pass(0));
    }

    private static Tollgate onDay(int day) {
        Tollgate x = Ledgers.withThousand();
        x.pass(day);
        return x;
    }
}
