/** The boundary cases that promises 23 to 27 name, each by itself. */
public final class AskingEdgesTest {
    private static final Edges edges = new Edges("AskingEdgesTest");

    public static void main(String[] args) {
        manyArguments();
        manyAnswers();
        toldArguments();
        toldOfKinds();
        toldWithHolds();
        toldWithFloor();
        toldOnAllDays();
        toldAboveInt();
        atArguments();
        atDays();
        ofKindArguments();
        ofKindAnswers();
        earnedArguments();
        earnedDays();
        earnedOfKinds();
        earnedWithoutClosings();
        edges.end();
    }

    // Promise 23
    private static void manyArguments() {
        edges.range("many: what", Ledgers::withThousand, 0, 5, Edges.ARGUMENT, Tollgate::many);
        edges.range("many: what, of a new ledger", Tollgate::new, 0, 5, Edges.ARGUMENT, Tollgate::many);
    }

    private static void many(String edge, int what, long due, Edges.Made made) {
        edges.tells("many: " + edge, made, due, x -> x.many(what));
    }

    private static void manyAnswers() {
        many("no accounts", 0, 0, Tollgate::new);
        many("ten accounts", 0, 10, () -> {
            Tollgate x = Ledgers.ofAllKinds();
            for (int i = 5; i < 10; i++) {
                x.account(0, 0);
            }
            return x;
        });
        many("no entries", 1, 0, Ledgers::ofAllKinds);
        many("a draft is none", 1, 0, () -> {
            Tollgate x = Ledgers.ofAllKinds();
            Ledgers.drafted(x, 0, 0, 0, 5, 4, -5);
            return x;
        });
        many("sixty entries", 1, 60, () -> Ledgers.withEntries(60));
        many("one is gone", 1, 59, AskingEdgesTest::withOneGone);
        many("an entry that was turned back counts", 1, 2, () -> Ledgers.withEntries(2));
        many("no holds", 2, 0, Ledgers::ofAllKinds);
        many("twenty holds", 2, 20, () -> withHolds(20));
        many("three of twenty are not open", 2, 17, () -> {
            Tollgate x = withHolds(20);
            x.letGo(0);
            x.letGo(19);
            x.take(7, 1, 1);
            return x;
        });
        many("on the last day", 2, 20, () -> {
            Tollgate x = withHolds(20);
            x.pass(4);
            return x;
        });
        many("a day behind the last day", 2, 0, () -> {
            Tollgate x = withHolds(20);
            x.pass(5);
            return x;
        });
        many("no lines", 3, 0, Ledgers::ofAllKinds);
        many("forty lines", 3, 40, () -> {
            Tollgate x = Ledgers.ofAllKinds();
            for (int line = 0; line < 40; line++) {
                x.line(0, 0, 1);
            }
            return x;
        });
        many("the first day", 4, 0, Tollgate::new);
        many("the last day", 4, 364, () -> {
            Tollgate x = new Tollgate();
            x.pass(364);
            return x;
        });
        many("nothing locked", 5, -1, Ledgers::ofAllKinds);
        many("day 0 locked", 5, 0, () -> {
            Tollgate x = Ledgers.ofAllKinds();
            x.close(0, 4);
            return x;
        });
        many("all days locked", 5, 364, () -> {
            Tollgate x = Ledgers.ofAllKinds();
            x.pass(364);
            x.close(364, 4);
            return x;
        });
        many("opened again", 5, -1, AskingEdgesTest::withOneGone);
    }

    private static Tollgate withOneGone() {
        Tollgate x = Ledgers.withEntries(59);
        x.close(0, 4);
        x.open();
        return x;
    }

    private static Tollgate withHolds(int count) {
        Tollgate x = Ledgers.ofAllKinds();
        for (int hold = 0; hold < count; hold++) {
            x.hold(0, 1, 4);
        }
        return x;
    }

    // Promise 24
    private static void toldArguments() {
        edges.range("told: account", Ledgers::withThousand, 0, 4, Edges.INDEX, (x, account) -> x.told(account, 0));
        edges.range("told: what", Ledgers::withThousand, 0, 4, Edges.ARGUMENT, (x, what) -> x.told(0, what));
        edges.refused("told: index ahead of argument", Ledgers::withThousand, Edges.INDEX, x -> x.told(5, 5));
    }

    private static void told(String edge, Edges.Made made, int account, long... due) {
        for (int what = 0; what < due.length; what++) {
            int w = what;
            edges.tells("told " + what + ": " + edge, made, due[what], x -> x.told(account, w));
        }
    }

    private static void toldOfKinds() {
        for (int kind = 0; kind <= 4; kind++) {
            int k = kind;
            int sign = kind == 0 || kind == 3 ? 1 : -1;
            told("no legs, of kind " + kind, Ledgers::ofAllKinds, kind, 0, 0, 0, 0, 0);
            told("of kind " + kind, () -> {
                Tollgate x = Ledgers.ofAllKinds();
                x.account(4, 0);
                Ledgers.post(x, 0, 0, k, 7, 5, -7);
                return x;
            }, kind, 7, sign * 7, 7, 0, sign * 7);
        }
        told("a currency", () -> {
            Tollgate x = new Tollgate();
            x.rate(1, 1500);
            x.account(0, 1);
            x.account(1, 1);
            Ledgers.post(x, 0, 0, 0, 1, 1, -1);
            Ledgers.post(x, 0, 0, 0, 1, 1, -1);
            return x;
        }, 1, -2, 2, -4, 0, 2);
    }

    private static void toldWithHolds() {
        Edges.Made made = () -> {
            Tollgate x = Ledgers.withThousand();
            x.account(0, 0);
            x.hold(0, 600, 3);
            x.hold(0, 500, 4);
            x.hold(5, 70, 9);
            return x;
        };
        told("two holds", made, 0, 1000, 1000, 1000, 1100, -100);
        told("another account's hold", made, 5, 0, 0, 0, 70, -70);
        told("the last day of one", () -> passed(made, 3), 0, 1000, 1000, 1000, 1100, -100);
        told("a day behind the last day of one", () -> passed(made, 4), 0, 1000, 1000, 1000, 500, 500);
        told("a day behind that of both", () -> passed(made, 5), 0, 1000, 1000, 1000, 0, 1000);
    }

    private static Tollgate passed(Edges.Made made, int days) {
        Tollgate x = made.ledger();
        x.pass(days);
        return x;
    }

    private static void toldWithFloor() {
        for (int floor : new int[] {1000, 0, -100000}) {
            told("floor " + floor, () -> {
                Tollgate x = Ledgers.withThousand();
                x.floor(4, floor);
                return x;
            }, 4, -1000, 1000, -1000, 0, 1000 - floor);
        }
    }

    private static void toldOnAllDays() {
        told("a leg of the last day", () -> {
            Tollgate x = Ledgers.ofAllKinds();
            Ledgers.post(x, 364, 0, 0, 7, 4, -7);
            return x;
        }, 0, 7, 7, 7, 0, 7);
        told("a draft's leg", () -> {
            Tollgate x = Ledgers.ofAllKinds();
            Ledgers.drafted(x, 0, 0, 0, 7, 4, -7);
            return x;
        }, 0, 0, 0, 0, 0, 0);
    }

    private static void toldAboveInt() {
        long most = Ledgers.ABOVE_INT;
        told("above int", () -> Ledgers.closedAboveInt(1), 0, -most, most, -most, 0, most);
        told("below int", () -> Ledgers.closedAboveInt(-1), 0, most, -most, most, 0, -most);
        told("worths above int", () -> Ledgers.earnedAboveInt(1), 2, 42949673, 42949673, 4294967300L, 0, 42949673);
    }

    // Promise 25
    private static void atArguments() {
        edges.range("at: account", Ledgers::withThousand, 0, 4, Edges.INDEX, (x, account) -> x.at(account, 0));
        edges.range("at: day", Ledgers::withThousand, 0, 364, Edges.ARGUMENT, (x, day) -> x.at(0, day));
        edges.refused("at: index ahead of argument", Ledgers::withThousand, Edges.INDEX, x -> x.at(5, 365));
    }

    private static void at(String edge, long due, Edges.Made made, int account, int day) {
        edges.tells("at: " + edge, made, due, x -> x.at(account, day));
    }

    // "of that DAY, and of those ahead of it"
    private static void atDays() {
        Edges.Made made = () -> {
            Tollgate x = Ledgers.ofAllKinds();
            Ledgers.post(x, 5, 0, 2, 10, 4, -10);
            Ledgers.post(x, 0, 0, 2, 7, 4, -7);
            Ledgers.post(x, 364, 0, 2, 100, 4, -100);
            return x;
        };
        at("the first day", 7, made, 2, 0);
        at("a day ahead", 7, made, 2, 4);
        at("that day", 17, made, 2, 5);
        at("a day behind", 17, made, 2, 6);
        at("the last day but one", 17, made, 2, 363);
        at("the last day", 117, made, 2, 364);
        at("no legs", 0, made, 1, 364);
        at("no sign of the stand", -117, made, 4, 364);
        Edges.Made closed = () -> {
            Tollgate x = made.ledger();
            x.pass(5);
            x.close(5, 4);
            return x;
        };
        at("the day of a closing", 0, closed, 2, 5);
        at("a day ahead of a closing", 7, closed, 2, 4);
        at("one that is gone", 17, () -> {
            Tollgate x = closed.ledger();
            x.open();
            return x;
        }, 2, 5);
        at("above int", -Ledgers.ABOVE_INT, () -> Ledgers.closedAboveInt(1), 0, 0);
        at("below int", Ledgers.ABOVE_INT, () -> Ledgers.closedAboveInt(-1), 0, 364);
    }

    // Promise 26
    private static void ofKindArguments() {
        edges.range("ofKind: kind", Ledgers::withThousand, 0, 4, Edges.ARGUMENT, Tollgate::ofKind);
        edges.range("ofKind: kind, no accounts", Tollgate::new, 0, 4, Edges.ARGUMENT, Tollgate::ofKind);
    }

    private static void ofKindAnswers() {
        for (int kind = 0; kind <= 4; kind++) {
            int k = kind;
            edges.tells("ofKind: none of " + kind, Tollgate::new, 0, x -> x.ofKind(k));
            edges.tells("ofKind: no legs of " + kind, Ledgers::ofAllKinds, 0, x -> x.ofKind(k));
            Edges.Made made = () -> {
                Tollgate x = new Tollgate();
                x.rate(3, 1500);
                x.account(k, 0);
                x.account((k + 1) % 5, 0);
                x.account(k, 3);
                Ledgers.post(x, 364, 0, 0, 4, 1, -6, 2, 1);
                return x;
            };
            edges.tells("ofKind: worths of two accounts of " + kind, made, 6, x -> x.ofKind(k));
            edges.tells("ofKind: of the kind behind " + kind, made, -6, x -> x.ofKind((k + 1) % 5));
        }
        for (int kind = 0; kind <= 4; kind++) {
            int k = kind;
            edges.tells("ofKind: ten accounts, " + kind, AskingEdgesTest::withTenAccounts, 11 * (kind - 2),
                    x -> x.ofKind(k));
        }
        edges.tells("ofKind: above int", () -> Ledgers.earnedAboveInt(1), Ledgers.ABOVE_INT, x -> x.ofKind(0));
        edges.tells("ofKind: below int", () -> Ledgers.earnedAboveInt(1), -Ledgers.ABOVE_INT, x -> x.ofKind(2));
        edges.tells("ofKind: closed", () -> Ledgers.closedAboveInt(1), 0, x -> x.ofKind(2));
        edges.tells("ofKind: where it is closed into", () -> Ledgers.closedAboveInt(1), -Ledgers.ABOVE_INT,
                x -> x.ofKind(4));
        edges.tells("ofKind: gone", () -> {
            Tollgate x = Ledgers.closedAboveInt(1);
            x.open();
            return x;
        }, 0, x -> x.ofKind(4));
    }

    /** Accounts k and k + 5 are of the kind k, and their balances are 10 * (k - 2) and k - 2. */
    private static Tollgate withTenAccounts() {
        Tollgate x = Ledgers.ofAllKinds();
        for (int kind = 0; kind <= 4; kind++) {
            x.account(kind, 0);
        }
        Ledgers.post(x, 0, 0, 0, -20, 1, -10, 3, 10, 4, 20);
        Ledgers.post(x, 0, 0, 5, -2, 6, -1, 8, 1, 9, 2);
        return x;
    }

    // Promise 27
    private static void earnedArguments() {
        edges.range("earned: from", Ledgers::withThousand, 0, 364, Edges.ARGUMENT, (x, from) -> x.earned(from, 5));
        edges.range("earned: to", Ledgers::withThousand, 0, 364, Edges.ARGUMENT, (x, to) -> x.earned(5, to));
        edges.refused("earned: from behind to, from too great", Ledgers::withThousand, Edges.ARGUMENT,
                x -> x.earned(365, 0));
        edges.refused("earned: from behind to, to too small", Ledgers::withThousand, Edges.ARGUMENT,
                x -> x.earned(364, -1));
    }

    private static void earned(String edge, long due, Edges.Made made, int from, int to) {
        edges.tells("earned: " + edge, made, due, x -> x.earned(from, to));
    }

    // "to can be ahead of from: 0"
    private static void earnedDays() {
        Edges.Made made = () -> {
            Tollgate x = Ledgers.ofAllKinds();
            Ledgers.post(x, 0, 0, 0, 1, 2, -1);
            Ledgers.post(x, 5, 0, 0, 20, 2, -20);
            Ledgers.post(x, 7, 0, 0, 300, 2, -300);
            Ledgers.post(x, 364, 0, 0, 4000, 2, -4000);
            return x;
        };
        earned("all days", 4321, made, 0, 364);
        earned("the first day", 1, made, 0, 0);
        earned("the last day", 4000, made, 364, 364);
        earned("up to a day ahead", 1, made, 0, 4);
        earned("up to that day", 21, made, 0, 5);
        earned("from that day", 4320, made, 5, 364);
        earned("from a day behind", 4300, made, 6, 364);
        earned("between", 0, made, 6, 6);
        earned("one day", 20, made, 5, 5);
        earned("two of them", 320, made, 5, 7);
        earned("to just ahead of from", 0, made, 6, 5);
        earned("to far ahead of from", 0, made, 364, 0);
        earned("from and to around a leg, the wrong way", 0, made, 6, 4);
    }

    private static void earnedOfKinds() {
        for (int kind = 0; kind <= 4; kind++) {
            int k = kind;
            earned("kind " + kind, kind == 2 || kind == 3 ? -7 : 0, () -> {
                Tollgate x = new Tollgate();
                x.account(k, 0);
                x.account(k == 0 ? 1 : 0, 0);
                Ledgers.post(x, 0, 0, 0, 7, 1, -7);
                return x;
            }, 0, 364);
        }
        earned("less what was spent", 3, () -> {
            Tollgate x = Ledgers.ofAllKinds();
            Ledgers.post(x, 0, 0, 2, -10, 3, 7, 0, 3);
            return x;
        }, 0, 0);
        earned("of ten accounts", -11, AskingEdgesTest::withTenAccounts, 0, 0);
        earned("above int", Ledgers.ABOVE_INT, () -> Ledgers.earnedAboveInt(1), 0, 0);
        earned("below int", -Ledgers.ABOVE_INT, () -> Ledgers.earnedAboveInt(-1), 0, 0);
        earned("worths, each rounded", 2, () -> {
            Tollgate x = new Tollgate();
            x.rate(1, 500);
            x.account(2, 1);
            x.account(0, 1);
            Ledgers.post(x, 0, 0, 0, -1, 1, 1);
            Ledgers.post(x, 0, 0, 0, -1, 1, 1);
            return x;
        }, 0, 0);
    }

    // "but not those of ENTRIES of CLOSINGS"
    private static void earnedWithoutClosings() {
        earned("closed", Ledgers.ABOVE_INT, () -> Ledgers.closedAboveInt(1), 0, 364);
        earned("opened again", Ledgers.ABOVE_INT, () -> {
            Tollgate x = Ledgers.closedAboveInt(1);
            x.open();
            return x;
        }, 0, 364);
        earned("turned back behind the closing", 0, () -> {
            Tollgate x = Ledgers.ofAllKinds();
            Ledgers.post(x, 0, 0, 0, 9, 2, -9);
            x.close(0, 4);
            x.pass(1);
            x.turnBack(0);
            return x;
        }, 0, 1);
        earned("taken from a hold", -5, () -> {
            Tollgate x = Ledgers.withThousand();
            x.hold(0, 5, 0);
            x.take(0, 3, 5);
            return x;
        }, 0, 0);
    }
}
