/** The boundary cases that the term of holds and promises 14 to 16 name, each by itself. */
public final class HoldsEdgesTest {
    private static final Edges edges = new Edges("HoldsEdgesTest");

    public static void main(String[] args) {
        holdArguments();
        holdKinds();
        holdOrder();
        holdLastDay();
        holdAgainstFloor();
        holdWithoutFloor();
        twentyHolds();
        openTillLastDay();
        takeArguments();
        takeOrder();
        takeNotOpen();
        takeOnALockedDay();
        takeAgainstFloors();
        takeIsAheadOfFloors();
        takeSixty();
        takeEndsTheHold();
        takeLegs();
        letGoArguments();
        letGoNotOpen();
        edges.end();
    }

    private static Tollgate onDay(int day) {
        Tollgate x = Ledgers.withThousand();
        x.pass(day);
        return x;
    }

    // Promise 14
    private static void holdArguments() {
        edges.refused("hold: account -1", () -> onDay(5), Edges.INDEX, x -> x.hold(-1, 1, 5));
        edges.refused("hold: account 5 of 5", () -> onDay(5), Edges.INDEX, x -> x.hold(5, 1, 5));
        edges.refused("hold: account of the least int", () -> onDay(5), Edges.INDEX,
                x -> x.hold(Integer.MIN_VALUE, 1, 5));
        edges.answers("hold: the last account", () -> {
            Tollgate x = onDay(5);
            x.account(0, 3);
            return x;
        }, 0, x -> x.hold(5, 1, 5));
        edges.range("hold: amount", () -> onDay(5), 1, 1000000, Edges.ARGUMENT, (x, amount) -> x.hold(0, amount, 5));
        edges.range("hold: lastDay on day 0", () -> onDay(0), 0, 364, Edges.ARGUMENT, (x, day) -> x.hold(0, 1, day));
        edges.range("hold: lastDay on day 5", () -> onDay(5), 5, 364, Edges.ARGUMENT, (x, day) -> x.hold(0, 1, day));
        edges.range("hold: lastDay on day 364", () -> onDay(364), 364, 364, Edges.ARGUMENT,
                (x, day) -> x.hold(0, 1, day));
    }

    private static void holdKinds() {
        for (int kind = 1; kind <= 4; kind++) {
            int k = kind;
            edges.refused("hold: an account of kind " + kind, () -> onDay(0), Edges.ARGUMENT, x -> x.hold(k, 1, 0));
        }
    }

    private static void holdOrder() {
        edges.refused("hold: index ahead of amount", () -> onDay(5), Edges.INDEX, x -> x.hold(5, 0, 5));
        edges.refused("hold: index ahead of day", () -> onDay(5), Edges.INDEX, x -> x.hold(-1, 1, 4));
        edges.refused("hold: index ahead of state", () -> withHolds(20), Edges.INDEX, x -> x.hold(5, 1, 0));
        edges.refused("hold: kind ahead of state", () -> withHolds(20), Edges.ARGUMENT, x -> x.hold(1, 1, 0));
        edges.refused("hold: amount ahead of state", () -> withHolds(20), Edges.ARGUMENT, x -> x.hold(0, 0, 0));
        edges.refused("hold: day ahead of state", () -> withHolds(20), Edges.ARGUMENT, x -> x.hold(0, 1, 365));
        edges.refused("hold: amount ahead of what is to be had", () -> withFloor(1000), Edges.ARGUMENT,
                x -> x.hold(0, 1000001, 0));
    }

    private static Tollgate withFloor(int floor) {
        Tollgate x = Ledgers.withThousand();
        x.floor(0, floor);
        return x;
    }

    private static void holdLastDay() {
        edges.answers("hold: till today is held", () -> onDay(5), 9, x -> {
            x.hold(0, 9, 5);
            return x.told(0, 3);
        });
        edges.answers("hold: till today is not held tomorrow", () -> onDay(5), 0, x -> {
            x.hold(0, 9, 5);
            return x.hadOn(0, 6) - 1000;
        });
        edges.answers("hold: till 364 is held on 364", () -> onDay(5), 9, x -> {
            x.hold(0, 9, 364);
            x.pass(359);
            return x.told(0, 3);
        });
    }

    // "that ACCOUNT has a FLOOR, and less is to be HAD"
    private static void holdAgainstFloor() {
        edges.answers("hold: all that is to be had", () -> withFloor(200), 0, x -> x.hold(0, 800, 0));
        edges.refused("hold: 1 more than is to be had", () -> withFloor(200), Edges.STATE, x -> x.hold(0, 801, 0));
        edges.refused("hold: nothing is to be had", () -> withFloor(1000), Edges.STATE, x -> x.hold(0, 1, 0));
        edges.answers("hold: 1 is to be had", () -> withFloor(999), 0, x -> x.hold(0, 1, 0));
        edges.answers("hold: down to a floor below 0", () -> withFloor(-100000), 0, x -> x.hold(0, 101000, 0));
        edges.refused("hold: below a floor below 0", () -> withFloor(-100000), Edges.STATE, x -> x.hold(0, 101001, 0));
        edges.answers("hold: above the stand with a floor below 0", () -> withFloor(-1), 0, x -> x.hold(0, 1001, 0));
        Edges.Made held = () -> {
            Tollgate x = withFloor(200);
            x.hold(0, 300, 2);
            x.pass(2);
            return x;
        };
        edges.answers("hold: what is not held yet", held, 1, x -> x.hold(0, 500, 9));
        edges.refused("hold: 1 more than is not held yet", held, Edges.STATE, x -> x.hold(0, 501, 9));
        edges.answers("hold: the other one has ended", held, 1, x -> {
            x.pass(1);
            return x.hold(0, 800, 9);
        });
        edges.answers("hold: the other one is let go", held, 1, x -> {
            x.letGo(0);
            return x.hold(0, 800, 9);
        });
    }

    private static void holdWithoutFloor() {
        edges.answers("hold: more than the stand", () -> onDay(0), 0, x -> x.hold(0, 1000000, 0));
        edges.answers("hold: nothing there", Ledgers::ofAllKinds, 0, x -> x.hold(0, 1, 0));
        edges.answers("hold: less than nothing is to be had then", Ledgers::ofAllKinds, -1, x -> {
            x.hold(0, 1, 0);
            return x.told(0, 4);
        });
        edges.answers("hold: another account's floor", () -> {
            Tollgate x = withFloor(1000);
            x.account(0, 0);
            return x;
        }, 0, x -> x.hold(5, 1, 0));
    }

    /** So many holds of 1 till day 0, on account 0 with 1000. */
    private static Tollgate withHolds(int count) {
        Tollgate x = Ledgers.withThousand();
        for (int hold = 0; hold < count; hold++) {
            x.hold(0, 1, 0);
        }
        return x;
    }

    private static void twentyHolds() {
        edges.answers("hold: the twentieth", () -> withHolds(19), 19, x -> x.hold(0, 1, 0));
        edges.refused("hold: the twenty-first", () -> withHolds(20), Edges.STATE, x -> x.hold(0, 1, 0));
        edges.refused("hold: the twenty-first, all have ended", () -> {
            Tollgate x = withHolds(20);
            x.pass(1);
            return x;
        }, Edges.STATE, x -> x.hold(0, 1, 9));
        edges.refused("hold: the twenty-first, some let go", () -> {
            Tollgate x = withHolds(20);
            x.letGo(0);
            x.letGo(19);
            return x;
        }, Edges.STATE, x -> x.hold(0, 1, 0));
        edges.answers("hold: the sum of twenty", () -> withHolds(20), 20, x -> x.told(0, 3));
        edges.answers("hold: the greatest sum", () -> {
            Tollgate x = Ledgers.ofAllKinds();
            for (int hold = 0; hold < 20; hold++) {
                x.hold(0, 1000000, 0);
            }
            return x;
        }, 20000000, x -> x.told(0, 3));
    }

    // "as long as TODAY is not behind its last DAY"
    private static void openTillLastDay() {
        Edges.Made lastDay = () -> {
            Tollgate x = onDay(2);
            x.hold(0, 50, 4);
            x.pass(2);
            return x;
        };
        edges.answers("open: on the last day", lastDay, 1, x -> x.many(2));
        edges.answers("open: a day behind the last day", lastDay, 0, x -> {
            x.pass(1);
            return x.many(2);
        });
        edges.answers("open: the day ahead of the last one", () -> {
            Tollgate x = onDay(3);
            x.hold(0, 50, 4);
            return x;
        }, 1, x -> x.many(2));
        edges.answers("open: on 364", () -> {
            Tollgate x = onDay(364);
            x.hold(0, 50, 364);
            return x;
        }, 1, x -> x.many(2));
    }

    // Promise 15
    /** Hold 0 of 50 on account 0, HAVE, till day 3; 1 OWE of the same currency, 2 OWE of another, 3 OWN of 0. */
    private static Tollgate withHold() {
        Tollgate x = new Tollgate();
        x.account(0, 1);
        x.account(1, 1);
        x.account(1, 0);
        x.account(4, 0);
        x.hold(0, 50, 3);
        return x;
    }

    private static void takeArguments() {
        Edges.Made made = HoldsEdgesTest::withHold;
        edges.range("take: hold", made, 0, 0, Edges.INDEX, (x, hold) -> x.take(hold, 1, 1));
        edges.range("take: amount", made, 1, 50, Edges.ARGUMENT, (x, amount) -> x.take(0, 1, amount));
        for (int to : new int[] {-1, 4, Integer.MIN_VALUE, Integer.MAX_VALUE}) {
            edges.refused("take: to " + to, made, Edges.INDEX, x -> x.take(0, to, 1));
        }
        edges.refused("take: to itself", made, Edges.ARGUMENT, x -> x.take(0, 0, 1));
        edges.refused("take: to another currency", made, Edges.ARGUMENT, x -> x.take(0, 2, 1));
        edges.refused("take: to the currency 0", made, Edges.ARGUMENT, x -> x.take(0, 3, 1));
        edges.answers("take: the twentieth hold", () -> withHolds(20), 1, x -> x.take(19, 1, 1));
        edges.refused("take: behind the twentieth hold", () -> withHolds(20), Edges.INDEX, x -> x.take(20, 1, 1));
        edges.answers("take: the greatest amount", () -> {
            Tollgate x = Ledgers.ofAllKinds();
            x.hold(0, 1000000, 0);
            return x;
        }, 0, x -> x.take(0, 1, 1000000));
    }

    private static void takeOrder() {
        Edges.Made made = () -> {
            Tollgate x = withHold();
            x.letGo(0);
            return x;
        };
        edges.refused("take: hold ahead of the account to itself", made, Edges.INDEX, x -> x.take(1, 0, 51));
        edges.refused("take: account ahead of amount", made, Edges.INDEX, x -> x.take(0, 4, 51));
        edges.refused("take: itself ahead of state", made, Edges.ARGUMENT, x -> x.take(0, 0, 1));
        edges.refused("take: currency ahead of state", made, Edges.ARGUMENT, x -> x.take(0, 2, 1));
        edges.refused("take: amount ahead of state", made, Edges.ARGUMENT, x -> x.take(0, 1, 51));
    }

    private static void takeNotOpen() {
        edges.refused("take: let go", () -> {
            Tollgate x = withHold();
            x.letGo(0);
            return x;
        }, Edges.STATE, x -> x.take(0, 1, 1));
        edges.refused("take: taken, all of it", () -> {
            Tollgate x = withHold();
            x.take(0, 1, 50);
            return x;
        }, Edges.STATE, x -> x.take(0, 1, 1));
        edges.refused("take: taken, less than all", () -> {
            Tollgate x = withHold();
            x.take(0, 1, 1);
            return x;
        }, Edges.STATE, x -> x.take(0, 1, 49));
        edges.answers("take: on the last day", () -> {
            Tollgate x = withHold();
            x.pass(3);
            return x;
        }, 0, x -> x.take(0, 1, 1));
        edges.refused("take: a day behind the last day", () -> {
            Tollgate x = withHold();
            x.pass(4);
            return x;
        }, Edges.STATE, x -> x.take(0, 1, 1));
    }

    private static void takeOnALockedDay() {
        Edges.Made locked = () -> {
            Tollgate x = withHold();
            x.close(0, 3);
            return x;
        };
        edges.refused("take: today is the last locked day", locked, Edges.STATE, x -> x.take(0, 1, 1));
        edges.answers("take: a day behind what is locked", locked, 1, x -> {
            x.pass(1);
            return x.take(0, 1, 1);
        });
        edges.answers("take: opened again", locked, 1, x -> {
            x.open();
            return x.take(0, 1, 1);
        });
    }

    /** OWE stands at 50 and has the floor 20; hold 0 of 100 on account 0. */
    private static Tollgate withOweOnFloor() {
        Tollgate x = Ledgers.withThousand();
        Ledgers.post(x, 0, 0, 0, 50, 1, -50);
        x.floor(1, 20);
        x.hold(0, 100, 5);
        return x;
    }

    private static void takeAgainstFloors() {
        edges.answers("take: the other account to its floor", HoldsEdgesTest::withOweOnFloor, 2, x -> x.take(0, 1, 30));
        edges.refused("take: the other account below its floor", HoldsEdgesTest::withOweOnFloor, Edges.STATE,
                x -> x.take(0, 1, 31));
        Edges.Made below = () -> {
            Tollgate x = Ledgers.withThousand();
            Ledgers.post(x, 0, 0, 3, 10, 0, -10);
            x.floor(3, 10);
            x.close(0, 4);
            x.pass(1);
            x.hold(0, 100, 1);
            return x;
        };
        edges.refused("take: lifts the other account, but not to its floor", below, Edges.STATE, x -> x.take(0, 3, 9));
        edges.answers("take: lifts the other account to its floor", below, 3, x -> x.take(0, 3, 10));
        edges.answers("take: to an account that others hold on", () -> {
            Tollgate x = withOweOnFloor();
            x.account(0, 0);
            x.hold(5, 7, 5);
            return x;
        }, 2, x -> x.take(0, 5, 100));
    }

    // "the HOLD is not OPEN any more then (also if less was TAKEN), ahead of asking for FLOORS"
    private static void takeIsAheadOfFloors() {
        edges.answers("take: all, on the floor", () -> heldToTheFloor(), 1, x -> x.take(0, 1, 800));
        edges.answers("take: 1, on the floor", () -> heldToTheFloor(), 1, x -> x.take(0, 1, 1));
        edges.answers("take: 1, the rest is to be had", () -> heldToTheFloor(), 799, x -> {
            x.take(0, 1, 1);
            return x.told(0, 4);
        });
        edges.answers("take: the other holds are held still", () -> {
            Tollgate x = Ledgers.withThousand();
            x.hold(0, 600, 0);
            x.hold(0, 400, 0);
            x.floor(0, 0);
            return x;
        }, 400, x -> {
            x.take(0, 1, 600);
            return x.told(0, 3);
        });
    }

    private static Tollgate heldToTheFloor() {
        Tollgate x = withFloor(200);
        x.hold(0, 800, 0);
        return x;
    }

    private static void takeSixty() {
        Edges.Made fiftyNine = () -> {
            Tollgate x = Ledgers.withEntries(59);
            x.hold(0, 5, 0);
            return x;
        };
        edges.answers("take: the sixtieth entry", fiftyNine, 59, x -> x.take(0, 1, 5));
        edges.refused("take: the sixty-first entry", () -> {
            Tollgate x = fiftyNine.ledger();
            x.turnBack(0);
            return x;
        }, Edges.STATE, x -> x.take(0, 1, 5));
    }

    private static void takeEndsTheHold() {
        edges.answers("take: less than all, none is open", HoldsEdgesTest::withHold, 0, x -> {
            x.take(0, 1, 1);
            return x.many(2);
        });
        edges.answers("take: less than all, nothing is held", HoldsEdgesTest::withHold, 0, x -> {
            x.take(0, 1, 1);
            return x.told(0, 3);
        });
        edges.answers("take: one that is refused is open still", HoldsEdgesTest::withOweOnFloor, 100, x -> {
            Edges.outcome(x, y -> y.take(0, 1, 31));
            return x.letGo(0);
        });
    }

    private static void takeLegs() {
        Edges.Made made = () -> {
            Tollgate x = new Tollgate();
            x.rate(1, 500);
            x.account(1, 1);
            x.account(0, 1);
            x.hold(1, 9, 364);
            x.pass(364);
            return x;
        };
        long[][] due = {{1, -3, -2, -1}, {0, 3, 2, -1}};
        for (int leg = 0; leg < 2; leg++) {
            for (int what = 0; what <= 3; what++) {
                int l = leg;
                int w = what;
                edges.answers("take: leg " + leg + ", " + what, made, due[leg][what],
                        x -> x.ofLeg(x.take(0, 0, 3), l, w));
            }
        }
        int[] entry = {364, 0, 2, 0};
        for (int what = 0; what <= 3; what++) {
            int w = what;
            edges.answers("take: entry, " + what, made, entry[what], x -> x.ofEntry(x.take(0, 0, 3), w));
        }
    }

    // Promise 16
    private static void letGoArguments() {
        edges.range("letGo: hold", () -> withHolds(3), 0, 2, Edges.INDEX, Tollgate::letGo);
        edges.range("letGo: hold of twenty", () -> withHolds(20), 0, 19, Edges.INDEX, Tollgate::letGo);
        edges.answers("letGo: the greatest amount", () -> {
            Tollgate x = Ledgers.ofAllKinds();
            x.hold(0, 1000000, 0);
            return x;
        }, 1000000, x -> x.letGo(0));
    }

    private static void letGoNotOpen() {
        edges.refused("letGo: again", () -> {
            Tollgate x = withHold();
            x.letGo(0);
            return x;
        }, Edges.STATE, x -> x.letGo(0));
        edges.refused("letGo: taken", () -> {
            Tollgate x = withHold();
            x.take(0, 1, 1);
            return x;
        }, Edges.STATE, x -> x.letGo(0));
        edges.answers("letGo: on the last day", () -> {
            Tollgate x = withHold();
            x.pass(3);
            return x;
        }, 50, x -> x.letGo(0));
        edges.refused("letGo: a day behind the last day", () -> {
            Tollgate x = withHold();
            x.pass(4);
            return x;
        }, Edges.STATE, x -> x.letGo(0));
        edges.answers("letGo: on a locked day", () -> {
            Tollgate x = withHold();
            x.close(0, 3);
            return x;
        }, 50, x -> x.letGo(0));
    }
}
