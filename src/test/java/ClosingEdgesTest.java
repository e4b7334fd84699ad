/** The boundary cases that the term of closings and promises 17 and 18 name, each by itself. */
public final class ClosingEdgesTest {
    private static final Edges edges = new Edges("ClosingEdgesTest");

    public static void main(String[] args) {
        closeArguments();
        closeOrder();
        closeLockedDay();
        closeSixty();
        closeOneLegAnAccount();
        closeUpToItsDay();
        closeSumOfZero();
        closeWorthsOfZero();
        closeRounds();
        closeWithoutLegs();
        closeTheMostLegs();
        closeAboveInt();
        closeAgainstFloors();
        closeLocks();
        openNothing();
        openLocks();
        openCountsForNothing();
        openFreesLines();
        edges.end();
    }

    /** Account of each kind, 5 OWN of the currency 1; EARN got 300 on day 2, SPEND 100 on day 3; today is 5. */
    private static Tollgate withResults() {
        Tollgate x = Ledgers.ofAllKinds();
        x.account(4, 1);
        Ledgers.post(x, 2, 0, 0, 300, 2, -300);
        Ledgers.post(x, 3, 0, 0, -100, 3, 100);
        x.pass(5);
        return x;
    }

    private static Tollgate closed(int... days) {
        Tollgate x = withResults();
        for (int day : days) {
            x.close(day, 4);
        }
        return x;
    }

    // Promise 17
    private static void closeArguments() {
        Edges.Made made = ClosingEdgesTest::withResults;
        edges.range("close: day, today is 5", made, 0, 5, Edges.ARGUMENT, (x, day) -> x.close(day, 4));
        edges.range("close: day, today is 0", Ledgers::ofAllKinds, 0, 0, Edges.ARGUMENT, (x, day) -> x.close(day, 4));
        edges.range("close: day, today is 364", () -> {
            Tollgate x = withResults();
            x.pass(359);
            return x;
        }, 0, 364, Edges.ARGUMENT, (x, day) -> x.close(day, 4));
        for (int into : new int[] {-1, 6, Integer.MIN_VALUE, Integer.MAX_VALUE}) {
            edges.refused("close: into " + into, made, Edges.INDEX, x -> x.close(0, into));
        }
        for (int kind = 0; kind <= 3; kind++) {
            int into = kind;
            edges.refused("close: into an account of kind " + kind, made, Edges.ARGUMENT, x -> x.close(0, into));
        }
        edges.refused("close: into another currency", made, Edges.ARGUMENT, x -> x.close(0, 5));
        edges.answers("close: into the tenth account", () -> {
            Tollgate x = withResults();
            x.account(4, 2);
            x.account(4, 3);
            x.account(0, 0);
            x.account(4, 0);
            return x;
        }, 2, x -> x.close(0, 9));
    }

    private static void closeOrder() {
        edges.refused("close: index ahead of day", ClosingEdgesTest::withResults, Edges.INDEX, x -> x.close(6, 6));
        edges.refused("close: index ahead of locked", () -> closed(5), Edges.INDEX, x -> x.close(5, -1));
        edges.refused("close: kind ahead of locked", () -> closed(5), Edges.ARGUMENT, x -> x.close(5, 0));
        edges.refused("close: currency ahead of locked", () -> closed(5), Edges.ARGUMENT, x -> x.close(5, 5));
        edges.refused("close: day ahead of locked", () -> closed(5), Edges.ARGUMENT, x -> x.close(-1, 4));
        edges.refused("close: day ahead of 60 entries", () -> Ledgers.withEntries(60), Edges.ARGUMENT,
                x -> x.close(1, 4));
    }

    private static void closeLockedDay() {
        edges.refused("close: the last locked day", () -> closed(3), Edges.STATE, x -> x.close(3, 4));
        edges.refused("close: a day ahead of it", () -> closed(3), Edges.STATE, x -> x.close(2, 4));
        edges.refused("close: day 0", () -> closed(0), Edges.STATE, x -> x.close(0, 4));
        edges.answers("close: the day behind it", () -> closed(3), 3, x -> x.close(4, 4));
        edges.answers("close: opened again", () -> {
            Tollgate x = closed(3);
            x.open();
            return x;
        }, 3, x -> x.close(3, 4));
        edges.answers("close: an earlier day, opened again", () -> {
            Tollgate x = closed(3);
            x.open();
            return x;
        }, 3, x -> x.close(0, 4));
    }

    private static void closeSixty() {
        edges.answers("close: the sixtieth", () -> Ledgers.withEntries(59), 59, x -> x.close(0, 4));
        edges.refused("close: the sixty-first", () -> Ledgers.withEntries(60), Edges.STATE, x -> x.close(0, 4));
        edges.refused("close: the sixty-first, one is gone", () -> {
            Tollgate x = Ledgers.withEntries(59);
            x.close(0, 4);
            x.open();
            return x;
        }, Edges.STATE, x -> x.close(0, 4));
    }

    // "with a LEG for each ACCOUNT of the KINDS EARN and SPEND, by numbers"
    private static void closeOneLegAnAccount() {
        Edges.Made made = () -> {
            Tollgate x = new Tollgate();
            for (int kind : new int[] {3, 4, 2, 0, 2, 1, 3}) {
                x.account(kind, 0);
            }
            Ledgers.post(x, 0, 0, 6, 1, 4, -20, 3, 7, 2, -30, 1, 2, 5, 40);
            Ledgers.post(x, 0, 0, 0, 3, 0, 4, 6, 1, 3, -8);
            return x;
        };
        long[][] due = {{0, -7}, {2, 30}, {4, 20}, {6, -2}, {1, -41}};
        edges.answers("close: five legs", made, 5, x -> x.ofEntry(x.close(0, 1), 2));
        for (int leg = 0; leg < due.length; leg++) {
            int l = leg;
            edges.answers("close: account of leg " + leg, made, due[leg][0], x -> x.ofLeg(x.close(0, 1), l, 0));
            edges.answers("close: amount of leg " + leg, made, due[leg][1], x -> x.ofLeg(x.close(0, 1), l, 1));
        }
        for (int account : new int[] {0, 2, 4, 6}) {
            edges.answers("close: nothing is left on " + account, made, 0, x -> {
                x.close(0, 1);
                return x.told(account, 0);
            });
        }
        edges.answers("close: HAVE is not closed", made, -1, x -> {
            x.close(0, 1);
            return x.told(3, 0);
        });
        edges.answers("close: OWE is not closed", made, 40, x -> {
            x.close(0, 1);
            return x.told(5, 0);
        });
    }

    // "of that DAY and of those ahead of it"
    private static void closeUpToItsDay() {
        edges.answers("close: a day ahead of the first leg", ClosingEdgesTest::withResults, 0,
                x -> x.ofEntry(x.close(1, 4), 2));
        edges.answers("close: the day of the first leg", ClosingEdgesTest::withResults, 2,
                x -> x.ofEntry(x.close(2, 4), 2));
        edges.answers("close: the day of the second leg", ClosingEdgesTest::withResults, 3,
                x -> x.ofEntry(x.close(3, 4), 2));
        edges.answers("close: what is closed is not closed again", () -> closed(2), 2,
                x -> x.ofEntry(x.close(3, 4), 2));
        edges.answers("close: all is closed, no legs", () -> closed(3), 0, x -> x.ofEntry(x.close(4, 4), 2));
        edges.answers("close: of its day, not of today", ClosingEdgesTest::withResults, 2,
                x -> x.ofEntry(x.close(2, 4), 0));
        edges.answers("close: note 0", ClosingEdgesTest::withResults, 0, x -> x.ofEntry(x.close(2, 4), 1));
    }

    private static Tollgate rated(int... legs) {
        Tollgate x = new Tollgate();
        x.rate(1, 500);
        x.rate(2, 1);
        x.account(4, 0);
        x.account(2, 1);
        x.account(0, 1);
        x.account(3, 2);
        x.account(0, 2);
        for (int i = 0; i < legs.length; i += 2) {
            Ledgers.post(x, 0, 0, legs[i], legs[i + 1], legs[i] + 1, -legs[i + 1]);
        }
        return x;
    }

    // "a sum that is not 0"
    private static void closeSumOfZero() {
        edges.answers("close: a sum of 0 gets no leg", () -> rated(1, -5, 1, 5), 0, x -> x.ofEntry(x.close(0, 0), 2));
        edges.answers("close: a sum of 1 gets a leg", () -> rated(1, -5, 1, 6), -1, x -> x.ofLeg(x.close(0, 0), 0, 1));
        edges.answers("close: a sum of -1 gets a leg", () -> rated(1, 5, 1, -6), 1, x -> x.ofLeg(x.close(0, 0), 0, 1));
        edges.answers("close: a sum of 0, the worths are not", () -> rated(1, -1, 1, -1, 1, 2), 0,
                x -> x.ofEntry(x.close(0, 0), 2));
    }

    // "if the sum of the WORTHS of these is not 0"
    private static void closeWorthsOfZero() {
        edges.answers("close: worth 0, no leg for the account", () -> rated(3, 499), 1,
                x -> x.ofEntry(x.close(0, 0), 2));
        edges.answers("close: worth 1, a leg for the account", () -> rated(3, 500), 2,
                x -> x.ofEntry(x.close(0, 0), 2));
        edges.answers("close: its amount", () -> rated(3, 500), 1, x -> x.ofLeg(x.close(0, 0), 1, 1));
        edges.answers("close: worths of two are 0 together", () -> rated(3, 1000, 1, -2), 2,
                x -> x.ofEntry(x.close(0, 0), 2));
        edges.answers("close: worths of two are 1 together", () -> rated(3, 1000, 1, -4), -1,
                x -> x.ofLeg(x.close(0, 0), 2, 1));
    }

    // The worth of a leg of a closing is that of the sum
    private static void closeRounds() {
        edges.answers("close: half, away from 0", () -> rated(1, -1, 1, -2), 2, x -> x.ofLeg(x.close(0, 0), 0, 2));
        edges.answers("close: half below 0, away from 0", () -> rated(1, 1, 1, 2), -2,
                x -> x.ofLeg(x.close(0, 0), 0, 2));
        edges.answers("close: rounded once", () -> rated(3, 300, 3, 300), -1, x -> x.ofLeg(x.close(0, 0), 0, 2));
        edges.answers("close: worths of the entry are 0 together", () -> rated(1, -3, 3, 700), 0, x -> {
            int entry = x.close(0, 0);
            return x.ofLeg(entry, 0, 2) + x.ofLeg(entry, 1, 2) + x.ofLeg(entry, 2, 2);
        });
    }

    // "There can be no LEGS (it is an ENTRY all the same)"
    private static void closeWithoutLegs() {
        Edges.Made made = () -> {
            Tollgate x = Ledgers.ofAllKinds();
            x.close(0, 4);
            return x;
        };
        edges.tells("close: no legs", made, 0, x -> x.ofEntry(0, 2));
        edges.tells("close: no legs, an entry", made, 1, x -> x.many(1));
        edges.tells("close: no legs, locked", made, 0, x -> x.many(5));
        edges.answers("close: no legs, opened", made, -1, Tollgate::open);
        edges.answers("close: no account of those kinds", () -> {
            Tollgate x = new Tollgate();
            x.account(4, 0);
            return x;
        }, 0, x -> x.ofEntry(x.close(0, 0), 2));
    }

    private static void closeTheMostLegs() {
        Edges.Made made = () -> {
            Tollgate x = new Tollgate();
            for (int i = 0; i < 9; i++) {
                x.account(2 + i % 2, 0);
            }
            x.account(4, 0);
            Ledgers.post(x, 0, 0, 0, 1, 1, 2, 2, 3, 3, 4, 4, 5, 9, -15);
            Ledgers.post(x, 0, 0, 5, 6, 6, 7, 7, 8, 8, 9, 9, -30);
            return x;
        };
        edges.answers("close: ten legs", made, 10, x -> x.ofEntry(x.close(0, 9), 2));
        edges.answers("close: the ninth leg", made, -9, x -> x.ofLeg(x.close(0, 9), 8, 1));
        edges.answers("close: the tenth leg", made, 45, x -> x.ofLeg(x.close(0, 9), 9, 1));
        edges.answers("close: the last entry of sixty such ones", () -> {
            Tollgate x = made.ledger();
            for (int entry = 2; entry < 59; entry++) {
                x.close(0, 9);
                x.open();
            }
            return x;
        }, 45, x -> x.ofLeg(x.close(0, 9), 9, 1));
    }

    private static void closeAboveInt() {
        for (int sign = -1; sign <= 1; sign += 2) {
            int s = sign;
            Edges.Made made = () -> Ledgers.closedAboveInt(s);
            edges.tells("close: worth above int, " + sign, made, sign * 4294967300L, x -> x.ofLeg(15, 0, 2));
            edges.tells("close: amount above int, " + sign, made, -sign * Ledgers.ABOVE_INT, x -> x.ofLeg(15, 2, 1));
            edges.tells("close: its worth, " + sign, made, -sign * Ledgers.ABOVE_INT, x -> x.ofLeg(15, 2, 2));
        }
    }

    // "FLOORS are not asked for"
    private static void closeAgainstFloors() {
        edges.answers("close: EARN below its floor", () -> {
            Tollgate x = withResults();
            x.floor(2, 300);
            return x;
        }, 2, x -> x.close(5, 4));
        edges.answers("close: SPEND below its floor", () -> {
            Tollgate x = withResults();
            x.floor(3, 100);
            return x;
        }, 2, x -> x.close(5, 4));
        edges.answers("close: OWN below its floor", () -> {
            Tollgate x = Ledgers.ofAllKinds();
            Ledgers.post(x, 0, 0, 3, 1, 0, -1);
            x.floor(4, 0);
            return x;
        }, 1, x -> x.close(0, 4));
    }

    // "All DAYS up to it are LOCKED"
    private static void closeLocks() {
        for (int day : new int[] {0, 1, 4}) {
            edges.tells("close: locked up to " + day, () -> closed(day), day, x -> x.many(5));
            edges.answers("close: day 0 is locked, up to " + day, () -> closed(day), 3, x -> reasonOn(x, 0));
            edges.answers("close: its day is locked, " + day, () -> closed(day), 3, x -> reasonOn(x, day));
            edges.answers("close: the next day is not, " + day, () -> closed(day), 0, x -> reasonOn(x, day + 1));
        }
        edges.tells("close: what is refused locks nothing", ClosingEdgesTest::withResults, -1, x -> {
            Edges.outcome(x, y -> y.close(6, 4));
            return x.many(5);
        });
    }

    private static long reasonOn(Tollgate x, int day) {
        Ledgers.drafted(x, day, 0, 0, 1, 4, -1);
        return x.reason();
    }

    // Promise 18
    private static void openNothing() {
        edges.refused("open: nothing closed", ClosingEdgesTest::withResults, Edges.STATE, Tollgate::open);
        edges.refused("open: all opened", () -> {
            Tollgate x = closed(3);
            x.open();
            return x;
        }, Edges.STATE, Tollgate::open);
        edges.refused("open: all of two opened", () -> {
            Tollgate x = closed(0, 3);
            x.open();
            x.open();
            return x;
        }, Edges.STATE, Tollgate::open);
        edges.answers("open: closed, opened and closed", () -> {
            Tollgate x = closed(3);
            x.open();
            x.close(0, 4);
            return x;
        }, -1, Tollgate::open);
    }

    // "LOCKED is what was LOCKED ahead of that"
    private static void openLocks() {
        edges.answers("open: nothing locked then", () -> closed(3), -1, Tollgate::open);
        edges.answers("open: day 0 is locked then", () -> closed(0, 3), 0, Tollgate::open);
        edges.answers("open: the second of three", () -> closed(0, 2, 3), 2, Tollgate::open);
        edges.answers("open: two of three", () -> closed(0, 2, 3), 0, x -> {
            x.open();
            return x.open();
        });
        edges.answers("open: the last locked day still is", () -> closed(0, 3), 3, x -> {
            x.open();
            return reasonOn(x, 0);
        });
        edges.answers("open: the day behind it is not", () -> closed(0, 3), 0, x -> {
            x.open();
            return reasonOn(x, 1);
        });
        edges.answers("open: many tells it too", () -> closed(0, 3), 0, x -> {
            x.open();
            return x.many(5);
        });
    }

    // "An ENTRY can be GONE: it counts for nothing any more"
    private static void openCountsForNothing() {
        gone("ofEntry", 1, x -> x.ofEntry(2, 3));
        gone("the entry ahead of it", 0, x -> x.ofEntry(1, 3));
        gone("entries", 2, x -> x.many(1));
        gone("balance", -300, x -> x.told(2, 0));
        gone("stand", 0, x -> x.told(4, 1));
        gone("worth", 100, x -> x.told(3, 2));
        gone("had", 300, x -> x.told(2, 4));
        gone("at", -300, x -> x.at(2, 364));
        gone("ofKind", 0, x -> x.ofKind(4));
        gone("legs left", 1, x -> x.left(2, 2));
        gone("sum of legs left", 100, x -> x.left(3, 4));
        gone("wouldClose", -200, x -> x.wouldClose(5));
        gone("meanLegs", 2, x -> (long) x.meanLegs());
        gone("hadOn", 100, x -> x.hadOn(3, 364));
        gone("floor", 300, x -> x.floor(2, 300));
        gone("legs that lines match", 0, x -> {
            x.line(2, 5, 300);
            return x.match(2, 0);
        });
        gone("pairs of legs that lines match", 0, x -> {
            Ledgers.post(x, 5, 0, 2, 1, 0, -1);
            x.line(2, 5, 301);
            return x.match(2, 0);
        });
        gone("legs that lines would match", 0, x -> {
            x.line(3, 5, -100);
            return x.wouldMatch(3, 0);
        });
    }

    private static void gone(String edge, long due, Edges.Call call) {
        edges.answers("gone: " + edge, () -> {
            Tollgate x = closed(5);
            x.open();
            return x;
        }, due, call);
    }

    // "a LINE is not MATCHED any more as a LEG of it is GONE, nor is the other LEG of it then: that is free"
    private static void openFreesLines() {
        freed("the line of a leg", -1, x -> x.matched(0));
        freed("the leg", -1, x -> x.ofLeg(3, 0, 3));
        freed("the line of two legs", -1, x -> x.matched(1));
        freed("the leg of two that is gone", -1, x -> x.ofLeg(3, 1, 3));
        freed("the leg of two that is not gone", -1, x -> x.ofLeg(2, 0, 3));
        freed("a line of another entry stays", 1, x -> x.matched(2));
        freed("so does its leg", 2, x -> x.ofLeg(1, 1, 3));
        freed("the leg behind the closing's last one stays", 4, x -> x.matched(3));
        freed("so does that leg's line", 3, x -> x.ofLeg(4, 0, 3));
        freed("the leg ahead of the closing's first one stays", 4, x -> x.ofLeg(2, 1, 3));
        freed("lines left of the first account", 1, x -> x.left(2, 1));
        freed("lines left of the second account", 1, x -> x.left(3, 1));
        freed("legs left of the second account", 1, x -> x.left(3, 2));
        freed("the free leg can be matched", 5, x -> {
            x.line(3, 5, 7);
            x.match(3, 0);
            return x.ofLeg(2, 0, 3);
        });
        edges.answers("open: a line of two legs of which the second is gone", ClosingEdgesTest::matchedClosing, 2,
                x -> x.matched(1));
        edges.answers("open: another closing does not free it", () -> {
            Tollgate x = matchedClosing();
            x.pass(1);
            x.close(6, 4);
            return x;
        }, 3, x -> {
            x.open();
            return x.matched(0);
        });
    }

    /**
     * Line 0 is matched with a leg of the closing (entry 3), line 1 with one of entry 2 and one of the closing; the
     * legs just ahead of those of the closing and just behind them are on account 0, and are matched too.
     */
    private static Tollgate matchedClosing() {
        Tollgate x = withResults();
        Ledgers.post(x, 5, 0, 3, 7, 0, -7);
        x.close(5, 4);
        x.line(2, 5, 300);
        x.line(3, 5, -100);
        x.line(3, 3, 100);
        Ledgers.post(x, 6, 0, 0, 9, 4, -9);
        x.line(0, 6, 9);
        x.line(0, 5, -7);
        x.match(2, 0);
        x.match(3, 0);
        x.match(0, 0);
        return x;
    }

    private static void freed(String edge, long due, Edges.Call call) {
        edges.answers("open frees: " + edge, () -> {
            Tollgate x = matchedClosing();
            x.open();
            return x;
        }, due, call);
    }
}
