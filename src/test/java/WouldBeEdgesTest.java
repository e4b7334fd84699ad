import java.math.BigInteger;

/** The boundary cases that promises 28 to 32 name, each by itself. */
public final class WouldBeEdgesTest {
    private static final Edges edges = new Edges("WouldBeEdgesTest");

    public static void main(String[] args) {
        askingChangesNothing();
        hadOnArguments();
        hadOnDays();
        hadOnFloors();
        wouldMatchArguments();
        wouldMatchAnswers();
        wouldCloseArguments();
        wouldCloseDays();
        wouldCloseNoLeg();
        wouldCloseWhatCloseRefuses();
        wouldCloseAboveInt();
        wouldCloseAsClose();
        meanLegs();
        digestWraps();
        digestOfAll();
        edges.end();
    }

    /** A bit of everything: two currencies, exchange, a floor, holds, a closing that is gone and one that is not. */
    private static Tollgate rich() {
        Tollgate x = new Tollgate();
        x.rate(1, 1500);
        for (int kind = 0; kind <= 4; kind++) {
            x.account(kind, 0);
        }
        x.account(0, 1);
        x.exchange(0);
        Ledgers.post(x, 0, 7, 0, 1000, 4, -1000);
        Ledgers.post(x, 2, 8, 5, 3, 2, -4);
        Ledgers.post(x, 3, 9, 0, -50, 3, 50);
        x.floor(0, 100);
        x.hold(0, 30, 4);
        x.hold(0, 40, 9);
        x.pass(4);
        x.close(1, 4);
        x.close(2, 4);
        x.open();
        x.line(0, 1, 1000);
        x.line(0, 3, -50);
        x.line(3, 3, 50);
        x.match(0, 1);
        Ledgers.drafted(x, 6, 5, 5, 3, 2, -4);
        return x;
    }

    // "(nothing is changed)", and nothing by any call that asks
    private static void askingChangesNothing() {
        Edges.Made made = WouldBeEdgesTest::rich;
        edges.tells("asks: reason", made, 0, Tollgate::reason);
        edges.tells("asks: ofEntry", made, 9, x -> x.ofEntry(2, 1));
        edges.tells("asks: ofLeg", made, 5, x -> x.ofLeg(1, 0, 2));
        edges.tells("asks: left", made, 0, x -> x.left(0, 1));
        edges.tells("asks: matched", made, 2, x -> x.matched(1));
        edges.tells("asks: many", made, 4, x -> x.many(1));
        edges.tells("asks: told", made, 779, x -> x.told(0, 4));
        edges.tells("asks: at", made, -4, x -> x.at(2, 3));
        edges.tells("asks: ofKind", made, 50, x -> x.ofKind(3));
        edges.tells("asks: earned", made, -46, x -> x.earned(0, 364));
        edges.tells("asks: hadOn", made, 849, x -> x.hadOn(0, 10));
        edges.tells("asks: wouldMatch, within less", made, 1, x -> x.wouldMatch(0, 0));
        edges.tells("asks: wouldMatch of another account", made, 1, x -> x.wouldMatch(3, 0));
        edges.tells("asks: wouldClose", made, 46, x -> x.wouldClose(364));
        edges.tells("asks: meanLegs", made, 7, x -> (long) (4 * x.meanLegs()));
        edges.tells("asks: digest", made, digestOf(WouldBeEdgesTest::rich).longValue(), Tollgate::digest);
    }

    // Promise 28
    private static void hadOnArguments() {
        edges.range("hadOn: account", Ledgers::withThousand, 0, 4, Edges.INDEX, (x, account) -> x.hadOn(account, 9));
        for (int today : new int[] {0, 5, 364}) {
            edges.range("hadOn: day, today is " + today, () -> {
                Tollgate x = Ledgers.withThousand();
                x.pass(today);
                return x;
            }, today, 364, Edges.ARGUMENT, (x, day) -> x.hadOn(0, day));
        }
        edges.refused("hadOn: index ahead of argument", Ledgers::withThousand, Edges.INDEX, x -> x.hadOn(5, 365));
    }

    private static void hadOnDays() {
        Edges.Made made = () -> {
            Tollgate x = Ledgers.withThousand();
            Ledgers.post(x, 364, 0, 0, 5, 4, -5);
            x.pass(2);
            x.hold(0, 100, 4);
            x.hold(0, 30, 2);
            x.hold(0, 7, 364);
            return x;
        };
        edges.tells("hadOn: today, the last day of one", made, 868, x -> x.hadOn(0, 2));
        edges.tells("hadOn: a day behind its last day", made, 898, x -> x.hadOn(0, 3));
        edges.tells("hadOn: the last day of another", made, 898, x -> x.hadOn(0, 4));
        edges.tells("hadOn: a day behind that", made, 998, x -> x.hadOn(0, 5));
        edges.tells("hadOn: the last day", made, 998, x -> x.hadOn(0, 364));
        edges.answers("hadOn: let go", made, 968, x -> {
            x.letGo(0);
            return x.hadOn(0, 2);
        });
        edges.answers("hadOn: taken, less than all", made, 967, x -> {
            x.take(0, 1, 1);
            return x.hadOn(0, 2);
        });
        edges.tells("hadOn: another account", made, 1005, x -> x.hadOn(4, 2));
    }

    private static void hadOnFloors() {
        for (int floor : new int[] {-100000, 0, 1000}) {
            edges.tells("hadOn: floor " + floor, () -> {
                Tollgate x = Ledgers.withThousand();
                x.floor(0, floor);
                return x;
            }, 1000 - floor, x -> x.hadOn(0, 0));
        }
        edges.tells("hadOn: above int", () -> Ledgers.closedAboveInt(1), Ledgers.ABOVE_INT, x -> x.hadOn(0, 364));
        edges.tells("hadOn: below int", () -> Ledgers.closedAboveInt(-1), -Ledgers.ABOVE_INT, x -> x.hadOn(0, 0));
    }

    // Promise 29
    private static void wouldMatchArguments() {
        Edges.Made made = () -> {
            Tollgate x = Ledgers.withThousand();
            x.line(0, 1, 1000);
            return x;
        };
        edges.range("wouldMatch: account", made, 0, 4, Edges.INDEX, (x, account) -> x.wouldMatch(account, 0));
        edges.range("wouldMatch: days", made, 0, 30, Edges.ARGUMENT, (x, days) -> x.wouldMatch(0, days));
        edges.refused("wouldMatch: index ahead of argument", made, Edges.INDEX, x -> x.wouldMatch(5, 31));
    }

    private static void wouldMatchAnswers() {
        edges.tells("wouldMatch: no lines", Ledgers::withThousand, 0, x -> x.wouldMatch(0, 30));
        Edges.Made matched = () -> {
            Tollgate x = Ledgers.withThousand();
            x.line(0, 1, 1000);
            x.match(0, 1);
            return x;
        };
        edges.tells("wouldMatch: matched, within less", matched, 0, x -> x.wouldMatch(0, 0));
        edges.tells("wouldMatch: matched, within as much", matched, 1, x -> x.wouldMatch(0, 1));
        edges.answers("wouldMatch: asked twice, within less the second time", matched, 0, x -> {
            x.wouldMatch(0, 1);
            return x.wouldMatch(0, 0);
        });
        edges.answers("wouldMatch: asked for two legs, then for one", () -> {
            Tollgate x = Ledgers.ofAllKinds();
            Ledgers.post(x, 5, 0, 0, 3, 0, 4, 4, -7);
            x.line(0, 5, 7);
            return x;
        }, 1, x -> {
            x.wouldMatch(0, 0);
            x.line(0, 5, 4);
            return x.wouldMatch(0, 0);
        });
        edges.answers("wouldMatch: asked, then the leg is gone", () -> Ledgers.closedAboveInt(1), 0, x -> {
            x.line(3, 0, 1);
            x.wouldMatch(3, 0);
            x.open();
            return x.wouldMatch(3, 0);
        });
    }

    // Promise 30
    private static void wouldCloseArguments() {
        edges.range("wouldClose: day", Ledgers::withThousand, 0, 364, Edges.ARGUMENT,
                Tollgate::wouldClose);
        edges.range("wouldClose: day, no accounts", Tollgate::new, 0, 364, Edges.ARGUMENT,
                Tollgate::wouldClose);
    }

    private static Tollgate withResults() {
        Tollgate x = Ledgers.ofAllKinds();
        Ledgers.post(x, 2, 0, 0, 300, 2, -300);
        Ledgers.post(x, 364, 0, 0, -450, 3, 450);
        return x;
    }

    private static void wouldCloseDays() {
        edges.tells("wouldClose: a day ahead", WouldBeEdgesTest::withResults, 0, x -> x.wouldClose(1));
        edges.tells("wouldClose: that day", WouldBeEdgesTest::withResults, -300, x -> x.wouldClose(2));
        edges.tells("wouldClose: the last day but one", WouldBeEdgesTest::withResults, -300, x -> x.wouldClose(363));
        edges.tells("wouldClose: the last day", WouldBeEdgesTest::withResults, 150, x -> x.wouldClose(364));
    }

    // "0 if it would get no LEG"
    private static void wouldCloseNoLeg() {
        edges.tells("wouldClose: no accounts", Tollgate::new, 0, x -> x.wouldClose(0));
        edges.tells("wouldClose: no legs", Ledgers::ofAllKinds, 0, x -> x.wouldClose(364));
        edges.tells("wouldClose: a sum of 0", () -> {
            Tollgate x = Ledgers.ofAllKinds();
            Ledgers.post(x, 0, 0, 2, -7, 3, 7);
            return x;
        }, 0, x -> x.wouldClose(0));
        edges.tells("wouldClose: a worth of 0", () -> tiny(499), 0, x -> x.wouldClose(0));
        edges.tells("wouldClose: a worth of 1", () -> tiny(500), 1, x -> x.wouldClose(0));
        edges.tells("wouldClose: a worth of -1", () -> tiny(-500), -1, x -> x.wouldClose(0));
        edges.tells("wouldClose: closed", () -> Ledgers.closedAboveInt(1), 0, x -> x.wouldClose(0));
    }

    /** SPEND, of a currency of the least rate, has that balance, of two entries. */
    private static Tollgate tiny(int balance) {
        Tollgate x = new Tollgate();
        x.rate(1, 1);
        x.account(3, 1);
        x.account(0, 1);
        Ledgers.post(x, 0, 0, 0, balance - 100, 1, 100 - balance);
        Ledgers.post(x, 0, 0, 0, 100, 1, -100);
        return x;
    }

    // "(also if that DAY is LOCKED, or behind TODAY, if there is no such ACCOUNT, or there were 60 ENTRIES)"
    private static void wouldCloseWhatCloseRefuses() {
        Edges.Made locked = () -> {
            Tollgate x = withResults();
            x.pass(5);
            x.close(5, 4);
            return x;
        };
        edges.tells("wouldClose: the last locked day", locked, 0, x -> x.wouldClose(5));
        edges.tells("wouldClose: a locked day", locked, -300, x -> x.wouldClose(4));
        edges.tells("wouldClose: a locked day ahead of all legs", locked, 0, x -> x.wouldClose(1));
        edges.tells("wouldClose: a day behind today", WouldBeEdgesTest::withResults, -300, x -> x.wouldClose(2));
        edges.tells("wouldClose: no account to close into", () -> {
            Tollgate x = new Tollgate();
            x.account(2, 0);
            x.account(4, 1);
            x.account(0, 0);
            Ledgers.post(x, 0, 0, 0, -5, 2, 5);
            return x;
        }, -5, x -> x.wouldClose(0));
        edges.tells("wouldClose: ten accounts of EARN and SPEND", () -> {
            Tollgate x = new Tollgate();
            x.rate(1, 1);
            for (int i = 0; i < 9; i++) {
                x.account(2 + i % 2, 0);
            }
            x.account(2, 1);
            Ledgers.post(x, 0, 0, 0, 1, 1, 2, 2, 3, 3, 4, 4, -10);
            Ledgers.post(x, 0, 0, 5, 1, 6, 2, 7, 3, 8, -6, 9, 400);
            Ledgers.post(x, 0, 0, 9, 400, 0, 1, 8, -1);
            return x;
        }, 1, x -> x.wouldClose(0));
        edges.tells("wouldClose: 60 entries", () -> {
            Tollgate x = Ledgers.withEntries(59);
            Ledgers.post(x, 0, 0, 2, -5, 0, 5);
            return x;
        }, -5, x -> x.wouldClose(0));
        edges.tells("wouldClose: a floor", () -> {
            Tollgate x = withResults();
            x.floor(2, 300);
            return x;
        }, -300, x -> x.wouldClose(2));
    }

    private static void wouldCloseAboveInt() {
        edges.tells("wouldClose: below int", () -> Ledgers.earnedAboveInt(1), -Ledgers.ABOVE_INT, x -> x.wouldClose(0));
        edges.tells("wouldClose: above int", () -> Ledgers.earnedAboveInt(-1), Ledgers.ABOVE_INT, x -> x.wouldClose(0));
    }

    private static void wouldCloseAsClose() {
        edges.answers("wouldClose: what close lays", () -> Ledgers.earnedAboveInt(1), 0, x -> {
            long due = x.wouldClose(0);
            return x.ofLeg(x.close(0, 0), 2, 1) - due;
        });
        edges.answers("wouldClose: the worth of the sum, rounded once", () -> {
            Tollgate x = new Tollgate();
            x.rate(1, 500);
            x.account(2, 1);
            x.account(0, 1);
            Ledgers.post(x, 0, 0, 0, 1, 1, -1);
            Ledgers.post(x, 0, 0, 0, 2, 1, -2);
            return x;
        }, 2, x -> x.wouldClose(0));
    }

    // Promise 31: "not cut; 0 without any"
    private static void mean(String edge, double due, Edges.Made made) {
        edges.tells("meanLegs: " + edge, made, Double.doubleToLongBits(due),
                x -> Double.doubleToLongBits(x.meanLegs()));
    }

    private static void meanLegs() {
        mean("no entries", 0.0, Tollgate::new);
        mean("a draft alone", 0.0, () -> {
            Tollgate x = Ledgers.ofAllKinds();
            Ledgers.drafted(x, 0, 0, 0, 5, 4, -5);
            return x;
        });
        mean("an entry without legs", 0.0, () -> {
            Tollgate x = Ledgers.ofAllKinds();
            x.close(0, 4);
            return x;
        });
        mean("all are gone", 0.0, () -> {
            Tollgate x = Ledgers.ofAllKinds();
            x.close(0, 4);
            x.open();
            return x;
        });
        mean("one entry", 2.0, Ledgers::withThousand);
        mean("not cut", 2.5, () -> {
            Tollgate x = Ledgers.withThousand();
            Ledgers.post(x, 0, 0, 0, 1, 1, 1, 2, -2);
            return x;
        });
        mean("a third", 7.0 / 3, () -> {
            Tollgate x = Ledgers.withThousand();
            Ledgers.post(x, 0, 0, 0, 1, 1, 1, 2, -2);
            x.turnBack(0);
            return x;
        });
        mean("below 1", 2.0 / 3, () -> {
            Tollgate x = Ledgers.withThousand();
            x.close(0, 4);
            x.pass(1);
            x.close(1, 4);
            return x;
        });
        mean("with one that is gone", 2.0, () -> {
            Tollgate x = Ledgers.withThousand();
            x.close(0, 4);
            x.open();
            return x;
        });
        mean("sixty entries", 2.0, () -> Ledgers.withEntries(60));
    }

    // Promise 32: "which wraps around as a 64-bit integer"
    private static void digestWraps() {
        BigInteger ofNew = digestOf(Tollgate::new);
        edges.answers("digest: that of a new ledger is above 63 bits", Tollgate::new, 1,
                x -> ofNew.bitLength() > 63 ? 1 : 0);
        edges.tells("digest: wraps around", Tollgate::new, ofNew.longValue(), Tollgate::digest);
        BigInteger ofMuch = digestOf(WouldBeEdgesTest::rich);
        edges.answers("digest: that of much is far above it", Tollgate::new, 1, x -> ofMuch.bitLength() > 630 ? 1 : 0);
        edges.tells("digest: wraps around often", WouldBeEdgesTest::rich, ofMuch.longValue(), Tollgate::digest);
    }

    private static void digestOfAll() {
        digest("accounts alone", Ledgers::ofAllKinds);
        digest("an entry without legs", () -> {
            Tollgate x = Ledgers.ofAllKinds();
            x.close(0, 4);
            return x;
        });
        digest("one that is gone", () -> {
            Tollgate x = Ledgers.closedAboveInt(1);
            x.open();
            return x;
        });
        digest("numbers above int", () -> Ledgers.closedAboveInt(1));
        digest("numbers below int", () -> Ledgers.closedAboveInt(-1));
        digest("sixty entries", () -> Ledgers.withEntries(60));
        digest("lines that match within 3, not within 2 or 4", () -> {
            Tollgate x = Ledgers.withThousand();
            x.line(0, 3, 1000);
            x.line(4, 4, -1000);
            return x;
        });
        digest("today is behind a leg of tomorrow", () -> {
            Tollgate x = Ledgers.ofAllKinds();
            Ledgers.post(x, 4, 0, 0, 3, 2, -3);
            Ledgers.post(x, 5, 0, 0, 9, 2, -9);
            x.pass(4);
            return x;
        });
        digest("forty lines and twenty holds", () -> {
            Tollgate x = Ledgers.withThousand();
            for (int i = 0; i < 40; i++) {
                x.line(i % 5, i, i + 1);
            }
            for (int i = 0; i < 20; i++) {
                x.hold(0, i + 1, i);
            }
            return x;
        });
    }

    private static void digest(String edge, Edges.Made made) {
        edges.tells("digest: " + edge, made, digestOf(made).longValue(), Tollgate::digest);
    }

    /** The digest without a bound on its number; each ledger that it asks has far less than 512 calls. */
    private static BigInteger digestOf(Edges.Made made) {
        Sum sum = new Sum();
        sum.addAccounts(made.ledger());
        int entry = 0;
        while (sum.addEntry(made.ledger(), entry)) {
            entry++;
        }
        sum.addRest(made.ledger());
        return sum.d;
    }

    private static final class Sum {
        BigInteger d = BigInteger.valueOf(58089);

        void add(long x) {
            d = d.multiply(BigInteger.valueOf(31)).add(BigInteger.valueOf(x));
        }

        void addAccounts(Tollgate x) {
            for (int what = 0; what <= 5; what++) {
                add(x.many(what));
            }
            add(x.reason());
            int accounts = x.many(0);
            for (int account = 0; account < accounts; account++) {
                for (int what = 0; what <= 4; what++) {
                    add(x.told(account, what));
                }
                for (int what = 0; what <= 4; what++) {
                    add(x.left(account, what));
                }
                add(x.wouldMatch(account, 3));
            }
        }

        /** Answers if there is such an entry. */
        boolean addEntry(Tollgate x, int entry) {
            if (Edges.outcome(x, y -> y.ofEntry(entry, 0)).endsWith("Exception")) {
                return false;
            }
            for (int what = 0; what <= 3; what++) {
                add(x.ofEntry(entry, what));
            }
            int legs = x.ofEntry(entry, 2);
            for (int leg = 0; leg < legs; leg++) {
                for (int what = 0; what <= 3; what++) {
                    add(x.ofLeg(entry, leg, what));
                }
            }
            return true;
        }

        void addRest(Tollgate x) {
            int lines = x.many(3);
            for (int line = 0; line < lines; line++) {
                add(x.matched(line));
            }
            for (int kind = 0; kind <= 4; kind++) {
                add(x.ofKind(kind));
            }
            add(x.wouldClose(x.many(4)));
        }
    }
}
