/** Promises 14 to 16: hold, take, letGo. */
public final class HoldsTest {
    private static final Check check = new Check("HoldsTest");

    public static void main(String[] args) {
        hold();
        holdAndFloor();
        holdLimit();
        take();
        takeRefused();
        takeAndFloors();
        takeIntoAFloor();
        takeWithSixty();
        letGo();
        check.end();
    }

    // Promise 14
    private static void hold() {
        Tollgate x = Ledgers.withThousand();
        x.pass(5);
        check.refused("hold on account -1", x, Check.INDEX, () -> x.hold(-1, 1, 5));
        check.refused("hold on account 5", x, Check.INDEX, () -> x.hold(5, 0, 5));
        for (int kind = 1; kind <= 4; kind++) {
            int account = kind;
            check.refused("hold on kind " + kind, x, Check.ARGUMENT, () -> x.hold(account, 1, 5));
        }
        check.refused("hold of 0", x, Check.ARGUMENT, () -> x.hold(0, 0, 5));
        check.refused("hold of -1", x, Check.ARGUMENT, () -> x.hold(0, -1, 5));
        check.refused("hold of 1000001", x, Check.ARGUMENT, () -> x.hold(0, 1000001, 5));
        check.refused("hold till yesterday", x, Check.ARGUMENT, () -> x.hold(0, 1, 4));
        check.refused("hold till 365", x, Check.ARGUMENT, () -> x.hold(0, 1, 365));
        check.same("hold of 1000000, without a floor", x.hold(0, 1000000, 364), 0);
        check.same("hold till today", x.hold(0, 1, 5), 1);
        check.same("held", x.told(0, 3), 1000001);
        check.same("had", x.told(0, 4), -999001);
        check.same("open", x.many(2), 2);
        x.pass(1);
        check.same("one has ended", x.many(2), 1);
        check.same("held then", x.told(0, 3), 1000000);
        check.same("the stand is not changed by holds", x.told(0, 1), 1000);
    }

    private static void holdAndFloor() {
        Tollgate x = Ledgers.withThousand();
        x.floor(0, 200);
        check.refused("hold of more than is to be had", x, Check.STATE, () -> x.hold(0, 801, 5));
        check.same("hold of all that is to be had", x.hold(0, 800, 5), 0);
        check.refused("hold of 1 more", x, Check.STATE, () -> x.hold(0, 1, 5));
        check.refused("hold: argument ahead of state", x, Check.ARGUMENT, () -> x.hold(0, 0, 5));
        x.letGo(0);
        check.same("hold again", x.hold(0, 800, 5), 1);
        x.pass(6);
        check.same("hold, as the other has ended", x.hold(0, 800, 6), 2);
        Tollgate y = Ledgers.ofAllKinds();
        y.account(0, 0);
        y.floor(0, 0);
        y.hold(5, 40, 3);
        check.same("a hold on another account", y.told(5, 3), 40);
        check.same("is not held on this one", y.told(0, 3), 0);
    }

    private static void holdLimit() {
        Tollgate x = Ledgers.withThousand();
        for (int i = 0; i < 20; i++) {
            check.same("hold's number", x.hold(0, 1, 0), i);
            x.letGo(i);
        }
        check.same("none is open", x.many(2), 0);
        check.refused("hold 21", x, Check.STATE, () -> x.hold(0, 1, 0));
        check.refused("hold 21 of 0", x, Check.ARGUMENT, () -> x.hold(0, 0, 0));
    }

    // Promise 15
    private static void take() {
        Tollgate x = Ledgers.withThousand();
        x.hold(0, 300, 9);
        x.pass(9);
        check.same("take on the last day", x.take(0, 3, 120), 1);
        check.same("of today", x.ofEntry(1, 0), 9);
        check.same("note 0", x.ofEntry(1, 1), 0);
        check.same("two legs", x.ofEntry(1, 2), 2);
        check.same("first its account", x.ofLeg(1, 0, 0), 0);
        check.same("less", x.ofLeg(1, 0, 1), -120);
        check.same("then the other", x.ofLeg(1, 1, 0), 3);
        check.same("more", x.ofLeg(1, 1, 1), 120);
        check.same("not open, though less was taken", x.many(2), 0);
        check.same("nothing held", x.told(0, 3), 0);
        check.refused("take again", x, Check.STATE, () -> x.take(0, 3, 1));
        check.refused("let go what is taken", x, Check.STATE, () -> x.letGo(0));
    }

    private static void takeRefused() {
        Tollgate x = new Tollgate();
        x.account(0, 1);
        x.account(1, 1);
        x.account(1, 0);
        x.hold(0, 50, 3);
        check.refused("take from hold -1", x, Check.INDEX, () -> x.take(-1, 1, 1));
        check.refused("take from hold 1", x, Check.INDEX, () -> x.take(1, 1, 1));
        check.refused("take to account -1", x, Check.INDEX, () -> x.take(0, -1, 1));
        check.refused("take to account 3", x, Check.INDEX, () -> x.take(0, 3, 0));
        check.refused("take to itself", x, Check.ARGUMENT, () -> x.take(0, 0, 1));
        check.refused("take to another currency", x, Check.ARGUMENT, () -> x.take(0, 2, 1));
        check.refused("take of 0", x, Check.ARGUMENT, () -> x.take(0, 1, 0));
        check.refused("take of 51", x, Check.ARGUMENT, () -> x.take(0, 1, 51));
        x.account(4, 0);
        x.close(0, 3);
        check.refused("take today, locked", x, Check.STATE, () -> x.take(0, 1, 1));
        x.pass(4);
        check.refused("take behind the last day", x, Check.STATE, () -> x.take(0, 1, 1));
        check.refused("take: argument ahead of state", x, Check.ARGUMENT, () -> x.take(0, 1, 51));
        x.hold(0, 50, 4);
        check.same("take of all", x.take(1, 1, 50), 1);
    }

    private static void takeAndFloors() {
        Tollgate x = Ledgers.withThousand();
        x.floor(0, 0);
        x.hold(0, 600, 5);
        x.hold(0, 400, 5);
        check.same("a hold that is taken is not held ahead of the floors", x.take(0, 1, 600), 1);
        check.same("the other is held still", x.told(0, 3), 400);
        Tollgate y = Ledgers.withThousand();
        y.hold(0, 600, 5);
        y.hold(0, 500, 5);
        y.floor(0, -100);
        Ledgers.post(y, 0, 0, 3, 1, 1, -1);
        check.same("taken down to the floor", y.take(0, 1, 600), 2);
        Tollgate z = Ledgers.ofAllKinds();
        z.floor(3, 0);
        Ledgers.post(z, 0, 0, 0, 100, 3, 50, 1, -150);
        z.hold(0, 300, 5);
        z.floor(0, -200);
        Ledgers.post(z, 0, 0, 3, 10, 1, -10);
        check.refused("hold below the floor", z, Check.STATE, () -> z.hold(0, 1, 5));
        check.same("take of the whole", z.take(0, 3, 300), 2);
    }

    private static void takeIntoAFloor() {
        Tollgate x = Ledgers.withThousand();
        Ledgers.post(x, 0, 0, 0, 50, 1, -50);
        x.floor(1, 20);
        x.hold(0, 100, 5);
        check.refused("the other account's floor", x, Check.STATE, () -> x.take(0, 1, 31));
        check.same("the hold is open still", x.many(2), 1);
        check.same("the other account's floor is kept", x.take(0, 1, 30), 2);
    }

    private static void takeWithSixty() {
        Tollgate x = Ledgers.withThousand();
        x.hold(0, 10, 5);
        x.hold(0, 10, 5);
        Ledgers.fillEntries(x, 59, 0, 2);
        check.same("take as the sixtieth", x.take(0, 3, 1), 59);
        check.refused("take as the sixty-first", x, Check.STATE, () -> x.take(1, 3, 1));
        check.same("that hold is open still", x.letGo(1), 10);
    }

    // Promise 16
    private static void letGo() {
        Tollgate x = Ledgers.withThousand();
        x.hold(0, 30, 2);
        x.hold(0, 40, 2);
        check.refused("let go -1", x, Check.INDEX, () -> x.letGo(-1));
        check.refused("let go 2", x, Check.INDEX, () -> x.letGo(2));
        check.same("let go", x.letGo(0), 30);
        check.same("held", x.told(0, 3), 40);
        check.refused("let go again", x, Check.STATE, () -> x.letGo(0));
        x.pass(2);
        check.same("held on the last day", x.told(0, 3), 40);
        x.pass(1);
        check.refused("let go behind the last day", x, Check.STATE, () -> x.letGo(1));
        x.hold(0, 5, 3);
        check.same("let go on the last day", x.letGo(2), 5);
    }
}
