/** The boundary cases that the term of drafts and promises 7 to 13 name, each by itself. */
public final class EntriesEdgesTest {
    private static final Edges edges = new Edges("EntriesEdgesTest");

    public static void main(String[] args) {
        draftArguments();
        draftForgets();
        draftOnALockedDay();
        legArguments();
        legsOfADraft();
        sumsOfWorths();
        postRefused();
        reasonTooFewLegs();
        reasonLockedDay();
        reasonWorths();
        reasonExchangeMissing();
        reasonExchangeLimit();
        legOnExchange();
        reasonFloor();
        reasonFloorAndHeld();
        reasonFloorOfExchange();
        reasonEntries();
        reasonIsTheFirst();
        draftStays();
        turnBackArguments();
        turnBackGone();
        turnBackLocked();
        turnBackFloors();
        turnBackSixty();
        turnBackLegs();
        ofEntryArguments();
        ofEntryLegs();
        ofLegArguments();
        ofLegAnswers();
        edges.end();
    }

    // Promise 7
    private static void draftArguments() {
        edges.range("draft: day", Tollgate::new, 0, 364, Edges.ARGUMENT, (x, day) -> x.draft(day, 0));
        edges.range("draft: note", Tollgate::new, 0, 999, Edges.ARGUMENT, (x, note) -> x.draft(0, note));
        edges.range("draft: day, with one there", () -> withLegs(2), 0, 364, Edges.ARGUMENT,
                (x, day) -> x.draft(day, 0));
        edges.range("draft: note, with one there", () -> withLegs(2), 0, 999, Edges.ARGUMENT,
                (x, note) -> x.draft(0, note));
        edges.answers("draft: the last day is its day", Ledgers::ofAllKinds, 364,
                x -> x.ofEntry(Ledgers.post(x, 364, 999, 0, 1, 4, -1), 0));
        edges.answers("draft: the last note is its note", Ledgers::ofAllKinds, 999,
                x -> x.ofEntry(Ledgers.post(x, 364, 999, 0, 1, 4, -1), 1));
    }

    /** A draft of so many legs of 1 and -1 by turns, of day 5 with the note 6. */
    private static Tollgate withLegs(int count) {
        Tollgate x = Ledgers.ofAllKinds();
        x.draft(5, 6);
        for (int leg = 0; leg < count; leg++) {
            x.leg(leg % 5, leg % 2 == 0 ? 1 : -1);
        }
        return x;
    }

    private static void draftForgets() {
        edges.answers("draft: none was there", Tollgate::new, 0, x -> x.draft(0, 0));
        for (int count = 0; count <= 6; count++) {
            int c = count;
            edges.answers("draft: forgets " + count, () -> withLegs(c), count, x -> x.draft(0, 0));
            edges.answers("draft: is without legs after " + count, () -> withLegs(c), 2, x -> {
                x.draft(0, 0);
                return x.reason();
            });
        }
        edges.answers("draft: none forgotten after a post", () -> withLegs(6), 0, x -> {
            x.post();
            return x.draft(0, 0);
        });
        edges.answers("draft: takes six legs after six were forgotten", () -> withLegs(6), 6, x -> {
            Ledgers.drafted(x, 0, 0, 0, 1, 0, 1, 0, 1, 0, 1, 0, 1);
            return x.leg(0, 1);
        });
    }

    private static void draftOnALockedDay() {
        edges.answers("draft: on a locked day", EntriesEdgesTest::withLockedTwo, 0, x -> x.draft(2, 0));
    }

    /** Up to day 2 is locked; today is 3; entry 0 is withThousand()'s, entry 1 the closing. */
    private static Tollgate withLockedTwo() {
        Tollgate x = Ledgers.withThousand();
        x.pass(3);
        x.close(2, 4);
        return x;
    }

    // Promise 8
    private static void legArguments() {
        Edges.Made made = () -> withLegs(1);
        edges.range("leg: account", made, 0, 4, Edges.INDEX, (x, account) -> x.leg(account, 1));
        edges.range("leg: amount", made, -1000000, 1000000, Edges.ARGUMENT, (x, amount) -> x.leg(0, amount));
        edges.refused("leg: 0", made, Edges.ARGUMENT, x -> x.leg(0, 0));
        edges.answers("leg: 1", made, 2, x -> x.leg(0, 1));
        edges.answers("leg: -1", made, 0, x -> x.leg(0, -1));
        edges.refused("leg: index ahead of argument", made, Edges.INDEX, x -> x.leg(5, 0));
        edges.refused("leg: index ahead of state", Ledgers::ofAllKinds, Edges.INDEX, x -> x.leg(5, 1));
        edges.refused("leg: argument ahead of state", Ledgers::ofAllKinds, Edges.ARGUMENT, x -> x.leg(0, 0));
        edges.refused("leg: index ahead of a full draft", () -> withLegs(6), Edges.INDEX, x -> x.leg(-1, 1));
        edges.refused("leg: argument ahead of a full draft", () -> withLegs(6), Edges.ARGUMENT,
                x -> x.leg(0, 1000001));
    }

    private static void legsOfADraft() {
        edges.refused("leg: no draft", Ledgers::ofAllKinds, Edges.STATE, x -> x.leg(0, 1));
        edges.refused("leg: the draft is posted", () -> {
            Tollgate x = withLegs(2);
            x.post();
            return x;
        }, Edges.STATE, x -> x.leg(0, 1));
        for (int count = 0; count <= 5; count++) {
            int c = count;
            edges.answers("leg: behind " + count, () -> withLegs(c), count % 2 + 1, x -> x.leg(4, 1));
        }
        edges.refused("leg: the seventh", () -> withLegs(6), Edges.STATE, x -> x.leg(4, 1));
    }

    private static void sumsOfWorths() {
        Edges.Made made = () -> {
            Tollgate x = new Tollgate();
            x.rate(1, 100000);
            x.rate(2, 1);
            x.account(0, 1);
            x.account(0, 2);
            x.draft(0, 0);
            return x;
        };
        for (int sign = -1; sign <= 1; sign += 2) {
            int amount = sign * 1000000;
            edges.answers("leg: the farthest sum, " + sign, made, sign * 600000000L, x -> {
                for (int leg = 0; leg < 5; leg++) {
                    x.leg(0, amount);
                }
                return x.leg(0, amount);
            });
        }
        edges.answers("leg: each worth is rounded, not the sum", made, 3, x -> {
            x.leg(1, 500);
            x.leg(1, 500);
            x.leg(1, 499);
            return x.leg(1, 500);
        });
    }

    // Promise 9
    private static void postRefused() {
        edges.refused("post: no draft", Ledgers::ofAllKinds, Edges.STATE, Tollgate::post);
        edges.refused("post: no legs", () -> withLegs(0), Edges.STATE, Tollgate::post);
        edges.refused("post: one leg", () -> withLegs(1), Edges.STATE, Tollgate::post);
        edges.answers("post: two legs", () -> withLegs(2), 0, Tollgate::post);
        edges.refused("post: a sum of 1", () -> withLegs(3), Edges.STATE, Tollgate::post);
        edges.answers("post: six legs", () -> withLegs(6), 0, Tollgate::post);
        edges.refused("post: again", () -> {
            Tollgate x = withLegs(2);
            x.post();
            return x;
        }, Edges.STATE, Tollgate::post);
        edges.refused("post: a locked day", () -> drafted(withLockedTwo(), 2, 0, 1, 4, -1), Edges.STATE,
                Tollgate::post);
        edges.refused("post: below a floor", () -> drafted(withFloor(1000), 0, 0, -1, 3, 1), Edges.STATE,
                Tollgate::post);
        edges.answers("post: as the sixtieth", () -> drafted(Ledgers.withEntries(59), 0, 0, 1, 4, -1), 59,
                Tollgate::post);
        edges.refused("post: as the sixty-first", () -> drafted(Ledgers.withEntries(60), 0, 0, 1, 4, -1),
                Edges.STATE, Tollgate::post);
    }

    private static Tollgate drafted(Tollgate x, int day, int... legs) {
        Ledgers.drafted(x, day, 0, legs);
        return x;
    }

    private static Tollgate withFloor(int floor) {
        Tollgate x = Ledgers.withThousand();
        x.floor(0, floor);
        return x;
    }

    // Promise 10, and the term of drafts
    private static void reason(String edge, int due, Edges.Made made) {
        edges.tells("reason: " + edge, made, due, Tollgate::reason);
    }

    private static void reasonTooFewLegs() {
        reason("no draft", 1, Ledgers::ofAllKinds);
        reason("no legs", 2, () -> withLegs(0));
        reason("one leg", 2, () -> withLegs(1));
        reason("two legs", 0, () -> withLegs(2));
        reason("six legs", 0, () -> withLegs(6));
        reason("one leg of worth 0", 2, () -> {
            Tollgate x = withTiny();
            return drafted(x, 0, 0, 1);
        });
        reason("two legs of worth 0", 0, () -> {
            Tollgate x = withTiny();
            return drafted(x, 0, 0, 1, 0, 1);
        });
    }

    private static Tollgate withTiny() {
        Tollgate x = new Tollgate();
        x.rate(1, 1);
        x.account(0, 1);
        return x;
    }

    private static void reasonLockedDay() {
        reason("the last locked day", 3, () -> drafted(withLockedTwo(), 2, 0, 1, 4, -1));
        reason("the first locked day", 3, () -> drafted(withLockedTwo(), 0, 0, 1, 4, -1));
        reason("the day behind what is locked", 0, () -> drafted(withLockedTwo(), 3, 0, 1, 4, -1));
        reason("the last day of all", 0, () -> drafted(withLockedTwo(), 364, 0, 1, 4, -1));
        reason("day 0, nothing locked", 0, () -> drafted(Ledgers.ofAllKinds(), 0, 0, 1, 4, -1));
        reason("the last day of all, locked", 3, () -> {
            Tollgate x = Ledgers.ofAllKinds();
            x.pass(364);
            x.close(364, 4);
            return drafted(x, 364, 0, 1, 4, -1);
        });
        reason("locked and opened again", 0, () -> {
            Tollgate x = withLockedTwo();
            x.open();
            return drafted(x, 0, 0, 1, 4, -1);
        });
        reason("locked after it was drafted", 3, () -> {
            Tollgate x = drafted(Ledgers.ofAllKinds(), 0, 0, 1, 4, -1);
            x.close(0, 4);
            return x;
        });
    }

    private static void reasonWorths() {
        reason("a sum of 0", 0, () -> drafted(Ledgers.ofAllKinds(), 0, 0, 5, 4, -5));
        reason("a sum of 1", 4, () -> drafted(Ledgers.ofAllKinds(), 0, 0, 5, 4, -4));
        reason("a sum of -1", 4, () -> drafted(Ledgers.ofAllKinds(), 0, 0, 5, 4, -6));
        reason("a sum of 0 of worths, not of amounts", 0, () -> {
            Tollgate x = exchangeable();
            return drafted(x, 0, 2, 3, 0, -6);
        });
        reason("a sum of 0 of amounts, not of worths", 4, () -> {
            Tollgate x = exchangeable();
            return drafted(x, 0, 2, 6, 0, -6);
        });
    }

    /** Accounts 0 HAVE, 1 OWN, of the currency 0; 2 and 3 HAVE, of the currency 1 at 2; no exchange. */
    private static Tollgate exchangeable() {
        Tollgate x = new Tollgate();
        x.rate(1, 2000);
        x.account(0, 0);
        x.account(4, 0);
        x.account(0, 1);
        x.account(0, 1);
        return x;
    }

    private static Tollgate exchanging(int... legs) {
        Tollgate x = exchangeable();
        x.exchange(1);
        return drafted(x, 0, legs);
    }

    // "(all three)": each one of them is missing
    private static void reasonExchangeMissing() {
        reason("all three", 0, () -> exchanging(2, 3, 0, -5));
        reason("one currency, 0", 4, () -> exchanging(0, 6, 1, -5));
        reason("one currency, not 0", 4, () -> exchanging(2, 3, 3, -2));
        reason("the currency of the last leg is the second", 0, () -> exchanging(2, 3, 3, -1, 0, -5));
        reason("no account exchange", 4, () -> drafted(exchangeable(), 0, 2, 3, 0, -5));
        reason("one too far", 4, () -> exchanging(2, 3, 0, -3));
        reason("exchange is made after the draft", 0, () -> {
            Tollgate x = drafted(exchangeable(), 0, 2, 3, 0, -5);
            x.exchange(1);
            return x;
        });
    }

    // "not farther from 0 than there are LEGS", of both signs and with each number of legs
    private static void reasonExchangeLimit() {
        for (int count = 2; count <= 6; count++) {
            int c = count;
            for (int sign = -1; sign <= 1; sign += 2) {
                int s = sign;
                String with = " with " + count + " legs, sign " + sign;
                reason("just as far as" + with, 0, () -> summing(c, s * c));
                reason("1 nearer than" + with, 0, () -> summing(c, s * (c - 1)));
                reason("1 farther than" + with, 4, () -> summing(c, s * (c + 1)));
            }
        }
    }

    /** A draft of so many legs whose worths have that sum. */
    private static Tollgate summing(int count, int sum) {
        Tollgate x = exchanging(2, 50);
        int rest = sum - 100;
        for (int leg = 2; leg < count; leg++) {
            x.leg(0, -1);
            rest++;
        }
        x.leg(0, rest);
        return x;
    }

    private static void legOnExchange() {
        Edges.Made six = () -> summing(6, 6);
        edges.answers("exchange: a seventh leg", six, 7, x -> x.ofEntry(x.post(), 2));
        edges.answers("exchange: its account", six, 1, x -> x.ofLeg(x.post(), 6, 0));
        edges.answers("exchange: its amount", six, -6, x -> x.ofLeg(x.post(), 6, 1));
        edges.answers("exchange: its worth", six, -6, x -> x.ofLeg(x.post(), 6, 2));
        edges.answers("exchange: below 0", () -> summing(6, -6), 6, x -> x.ofLeg(x.post(), 6, 1));
        edges.answers("exchange: a sum of 1", () -> summing(2, 1), -1, x -> x.ofLeg(x.post(), 2, 1));
        edges.answers("exchange: a sum of 0, no leg more", () -> summing(6, 0), 6, x -> x.ofEntry(x.post(), 2));
        edges.answers("exchange: in the draft as well", () -> exchanging(2, 3, 1, -5), 3,
                x -> x.ofEntry(x.post(), 2));
        edges.answers("exchange: the draft keeps its own sum", () -> summing(5, 5), 6, x -> {
            x.reason();
            return x.leg(0, 1);
        });
    }

    // "its STAND, with this, less what is HELD on it, is not below its FLOOR"
    private static void reasonFloor() {
        reason("at the floor", 0, () -> drafted(withFloor(999), 0, 0, -1, 3, 1));
        reason("1 below the floor", 5, () -> drafted(withFloor(999), 0, 0, -2, 3, 2));
        reason("upwards, at the floor", 0, () -> drafted(withFloor(1000), 0, 0, 1, 3, -1));
        reason("the account of the last leg", 5,
                () -> drafted(withFloor(1000), 0, 3, 1, 2, 1, 1, 1, 4, 1, 3, -3, 0, -1));
        reason("both legs on it", 0, () -> drafted(withFloor(1000), 0, 0, -1, 0, 1));
        reason("another account's floor", 0, () -> drafted(withFloor(1000), 0, 3, -1, 2, 1));
        for (int kind = 0; kind <= 4; kind++) {
            int k = kind;
            int down = kind == 0 || kind == 3 ? -1 : 1;
            reason("to a floor below 0, of kind " + kind, 0, () -> downBy(k, down * 7));
            reason("below a floor below 0, of kind " + kind, 5, () -> downBy(k, down * 8));
        }
        reason("a stand above int", 0, () -> {
            Tollgate x = Ledgers.closedAboveInt(1);
            x.floor(0, 100000);
            return drafted(x, 1, 0, 1000000, 4, -1000000);
        });
        reason("accounts of the entry before, below their floors", 0,
                () -> drafted(closedBelowFloors(), 1, 0, 5, 1, -5));
        reason("the entry before had a third leg on it", 0, () -> {
            Tollgate x = Ledgers.withThousand();
            Ledgers.post(x, 0, 0, 3, 250, 2, 250, 0, -500);
            x.floor(0, 400);
            return drafted(x, 0, 0, -100, 3, 100);
        });
        reason("one leg more, on one of them", 5, () -> drafted(closedBelowFloors(), 1, 0, 5, 1, -4, 4, -1));
        reason("below the floor till it is lifted to it", 5, () -> drafted(belowItsFloor(), 1, 3, 9, 0, -9));
        reason("lifted to the floor", 0, () -> drafted(belowItsFloor(), 1, 3, 10, 0, -10));
        reason("below its floor, not in the draft", 0, () -> drafted(belowItsFloor(), 1, 2, -10, 0, 10));
    }

    /** A closing of three legs that goes below the floor of each of its accounts. */
    private static Tollgate closedBelowFloors() {
        Tollgate x = Ledgers.ofAllKinds();
        Ledgers.post(x, 0, 0, 2, -7, 3, 10, 0, -3);
        x.floor(2, 7);
        x.floor(3, 10);
        x.floor(4, 0);
        x.close(0, 4);
        return x;
    }

    /** An account of that kind with the floor -7, and a draft of one leg of that amount on it. */
    private static Tollgate downBy(int kind, int amount) {
        Tollgate x = Ledgers.ofAllKinds();
        x.account(1, 0);
        x.floor(kind, -7);
        return drafted(x, 0, kind, amount, 5, -amount);
    }

    /** SPEND has the floor 10, and a closing of day 0 brought it to 0. */
    private static Tollgate belowItsFloor() {
        Tollgate x = Ledgers.ofAllKinds();
        Ledgers.post(x, 0, 0, 3, 10, 0, -10);
        x.floor(3, 10);
        x.close(0, 4);
        return x;
    }

    private static void reasonFloorAndHeld() {
        Edges.Made made = () -> {
            Tollgate x = Ledgers.withThousand();
            x.floor(0, 100);
            x.hold(0, 300, 2);
            x.pass(2);
            return x;
        };
        reason("down to floor and held", 0, () -> drafted(made.ledger(), 0, 0, -600, 3, 600));
        reason("1 below floor and held", 5, () -> drafted(made.ledger(), 0, 0, -601, 3, 601));
        reason("1 below, the hold has ended", 0, () -> {
            Tollgate x = drafted(made.ledger(), 0, 0, -601, 3, 601);
            x.pass(1);
            return x;
        });
        reason("1 below, the hold is let go", 0, () -> {
            Tollgate x = drafted(made.ledger(), 0, 0, -601, 3, 601);
            x.letGo(0);
            return x;
        });
        reason("held without a floor", 0, () -> {
            Tollgate x = Ledgers.withThousand();
            x.hold(0, 1000, 2);
            return drafted(x, 0, 0, -1000, 3, 1000);
        });
    }

    // The floors are asked for "then", with the leg on exchange
    private static void reasonFloorOfExchange() {
        reason("the leg more keeps the floor", 0, () -> exchangeOnFloor(0, 1, -6, 3, 2));
        reason("the leg more breaks the floor", 5, () -> exchangeOnFloor(0, 1, -6, 3, 4));
        reason("the leg more goes down to the floor", 0, () -> exchangeOnFloor(-2, 1, -6, 3, 4));
        reason("on its floor, no leg more", 0, () -> exchangeOnFloor(0, 1, -6, 3, 3));
        reason("the leg more mends what the draft breaks", 0, () -> exchangeOnFloor(-4, 0, -6, 3, 2));
        reason("the leg more does not mend enough", 5, () -> exchangeOnFloor(-3, 0, -6, 3, 2));
    }

    /** Account 0, at 0, is exchange and has that floor. */
    private static Tollgate exchangeOnFloor(int floor, int... legs) {
        Tollgate x = exchangeable();
        x.exchange(0);
        x.floor(0, floor);
        return drafted(x, 0, legs);
    }

    // "if there were not 60 ENTRIES"
    private static void reasonEntries() {
        reason("59 entries", 0, () -> drafted(Ledgers.withEntries(59), 0, 0, 1, 4, -1));
        reason("60 entries", 6, () -> drafted(Ledgers.withEntries(60), 0, 0, 1, 4, -1));
        reason("60 entries, one of them gone", 6, () -> {
            Tollgate x = Ledgers.withEntries(59);
            x.close(0, 4);
            x.open();
            return drafted(x, 0, 0, 1, 4, -1);
        });
    }

    // "The first of these that is not so": each one ahead of all behind it
    private static void reasonIsTheFirst() {
        reason("1 ahead of 6", 1, EntriesEdgesTest::withAllReasons);
        reason("2 ahead of all behind it, no legs", 2, () -> drafted(withAllReasons(), 0));
        reason("2 ahead of all behind it, one leg", 2, () -> drafted(withAllReasons(), 0, 0, -5));
        reason("3 ahead of 4, 5, 6", 3, () -> drafted(withAllReasons(), 0, 0, -5, 4, 4));
        reason("4 ahead of 5, 6", 4, () -> drafted(withAllReasons(), 1, 0, -5, 4, 4));
        reason("5 ahead of 6", 5, () -> drafted(withAllReasons(), 1, 0, -5, 4, 5));
        reason("6 alone", 6, () -> drafted(withAllReasons(), 1, 0, 5, 4, -5));
    }

    /** 60 entries, day 0 locked, account 0 at its floor. */
    private static Tollgate withAllReasons() {
        Tollgate x = Ledgers.withEntries(59);
        x.floor(0, 0);
        x.close(0, 4);
        return x;
    }

    // "A DRAFT stays as it is under all that makes or takes away other ENTRIES"
    private static void draftStays() {
        stays("turnBack", x -> x.turnBack(0));
        stays("take", x -> x.take(0, 1, 5));
        stays("close", x -> x.close(0, 4));
        stays("open", x -> x.close(0, 4) + x.open());
        stays("wouldClose", x -> x.wouldClose(0));
        stays("a post that is refused", x -> Edges.outcome(x, Tollgate::post).length());
    }

    private static void stays(String edge, Edges.Call call) {
        Edges.Made made = () -> {
            Tollgate x = Ledgers.withThousand();
            x.hold(0, 10, 5);
            Ledgers.drafted(x, 3, 8, 0, 5, 4, -4);
            call.on(x);
            return x;
        };
        edges.answers("draft under " + edge + ": its sum", made, 2, x -> x.leg(4, 1));
        edges.answers("draft under " + edge + ": its legs", made, 2, x -> x.draft(0, 0));
        edges.answers("draft under " + edge + ": its day", made, 3, x -> x.ofEntry(posted(x), 0));
        edges.answers("draft under " + edge + ": its note", made, 8, x -> x.ofEntry(posted(x), 1));
        edges.answers("draft under " + edge + ": its first leg", made, 5, x -> x.ofLeg(posted(x), 0, 1));
    }

    private static int posted(Tollgate x) {
        x.leg(4, -1);
        return x.post();
    }

    // Promise 11
    private static void turnBackArguments() {
        edges.range("turnBack: entry", () -> Ledgers.withEntries(3), 0, 2, Edges.INDEX, Tollgate::turnBack);
        edges.answers("turnBack: the number", () -> Ledgers.withEntries(3), 3, x -> x.turnBack(2));
    }

    private static void turnBackGone() {
        edges.refused("turnBack: a closing", EntriesEdgesTest::withLockedTwo, Edges.STATE, x -> x.turnBack(1));
        edges.refused("turnBack: a closing that is gone", () -> {
            Tollgate x = withLockedTwo();
            x.open();
            return x;
        }, Edges.INDEX, x -> x.turnBack(1));
        edges.refused("turnBack: gone, ahead of locked and 60 entries", () -> {
            Tollgate x = Ledgers.withEntries(58);
            x.close(0, 4);
            x.open();
            x.close(0, 4);
            return x;
        }, Edges.INDEX, x -> x.turnBack(58));
        edges.answers("turnBack: the entry ahead of one that is gone", () -> {
            Tollgate x = withLockedTwo();
            x.open();
            return x;
        }, 2, x -> x.turnBack(0));
    }

    private static void turnBackLocked() {
        Edges.Made locked = () -> {
            Tollgate x = Ledgers.withThousand();
            x.pass(3);
            x.close(3, 4);
            return x;
        };
        edges.refused("turnBack: today is the last locked day", locked, Edges.STATE, x -> x.turnBack(0));
        edges.answers("turnBack: a day behind what is locked", locked, 2, x -> {
            x.pass(1);
            return x.turnBack(0);
        });
        edges.answers("turnBack: an entry of a locked day", EntriesEdgesTest::withLockedTwo, 2, x -> x.turnBack(0));
        edges.answers("turnBack: opened again", locked, 2, x -> {
            x.open();
            return x.turnBack(0);
        });
    }

    private static void turnBackFloors() {
        edges.answers("turnBack: to the floor", () -> withFloor(0), 1, x -> x.turnBack(0));
        edges.refused("turnBack: 1 below the floor", () -> withFloor(1), Edges.STATE, x -> x.turnBack(0));
        edges.refused("turnBack: the floor of the last leg's account", () -> {
            Tollgate x = Ledgers.withThousand();
            x.floor(4, 1);
            return x;
        }, Edges.STATE, x -> x.turnBack(0));
        edges.answers("turnBack: upwards", () -> {
            Tollgate x = Ledgers.withThousand();
            Ledgers.post(x, 0, 0, 0, -400, 3, 400);
            x.floor(0, 600);
            return x;
        }, 2, x -> x.turnBack(1));
        Edges.Made held = () -> {
            Tollgate x = withFloor(0);
            x.hold(0, 1, 2);
            x.pass(2);
            return x;
        };
        edges.refused("turnBack: what is held, on the last day", held, Edges.STATE, x -> x.turnBack(0));
        edges.answers("turnBack: a day behind the last day", held, 1, x -> {
            x.pass(1);
            return x.turnBack(0);
        });
        edges.answers("turnBack: the floor of an account without a leg", () -> {
            Tollgate x = belowItsFloor();
            x.pass(1);
            Ledgers.post(x, 1, 0, 0, 1, 4, -1);
            return x;
        }, 3, x -> x.turnBack(2));
    }

    private static void turnBackSixty() {
        edges.answers("turnBack: the sixtieth", () -> Ledgers.withEntries(59), 59, x -> x.turnBack(0));
        edges.refused("turnBack: the sixty-first", () -> Ledgers.withEntries(60), Edges.STATE, x -> x.turnBack(0));
        edges.refused("turnBack: index ahead of 60 entries", () -> Ledgers.withEntries(60), Edges.INDEX,
                x -> x.turnBack(60));
    }

    private static void turnBackLegs() {
        Edges.Made seven = () -> {
            Tollgate x = summing(6, 6);
            x.post();
            return x;
        };
        edges.answers("turnBack: seven legs", seven, 7, x -> x.ofEntry(x.turnBack(0), 2));
        edges.answers("turnBack: the leg on exchange", seven, 6, x -> x.ofLeg(x.turnBack(0), 6, 1));
        edges.answers("turnBack: exchange is another one now", seven, 1, x -> {
            x.exchange(0);
            return x.ofLeg(x.turnBack(0), 6, 0);
        });
        edges.answers("turnBack: twice", seven, 6, x -> {
            x.turnBack(0);
            return x.ofLeg(x.turnBack(0), 6, 1);
        });
        edges.answers("turnBack: what turned back", seven, -6, x -> x.ofLeg(x.turnBack(x.turnBack(0)), 6, 1));
        Edges.Made rounded = () -> {
            Tollgate x = new Tollgate();
            x.rate(1, 500);
            x.account(0, 1);
            x.account(0, 1);
            Ledgers.post(x, 0, 999, 0, 1, 1, -1);
            x.pass(364);
            return x;
        };
        edges.answers("turnBack: the worth of a half", rounded, -1, x -> x.ofLeg(x.turnBack(0), 0, 2));
        edges.answers("turnBack: the worth of a half below 0", rounded, 1, x -> x.ofLeg(x.turnBack(0), 1, 2));
        edges.answers("turnBack: of today, the last day", rounded, 364, x -> x.ofEntry(x.turnBack(0), 0));
        edges.answers("turnBack: the last note", rounded, 999, x -> x.ofEntry(x.turnBack(0), 1));
    }

    // Promise 12
    private static void ofEntryArguments() {
        edges.range("ofEntry: entry", () -> Ledgers.withEntries(3), 0, 2, Edges.INDEX,
                (x, entry) -> x.ofEntry(entry, 0));
        edges.range("ofEntry: what", () -> Ledgers.withEntries(3), 0, 3, Edges.ARGUMENT,
                (x, what) -> x.ofEntry(0, what));
        edges.refused("ofEntry: index ahead of argument", () -> Ledgers.withEntries(3), Edges.INDEX,
                x -> x.ofEntry(3, 4));
        edges.answers("ofEntry: the sixtieth", () -> Ledgers.withEntries(60), 2, x -> x.ofEntry(59, 2));
        edges.refused("ofEntry: behind the sixtieth", () -> Ledgers.withEntries(60), Edges.INDEX,
                x -> x.ofEntry(60, 0));
    }

    private static void ofEntryLegs() {
        Edges.Made closed = () -> {
            Tollgate x = Ledgers.ofAllKinds();
            x.pass(364);
            x.close(364, 4);
            return x;
        };
        edges.tells("ofEntry: no legs", closed, 0, x -> x.ofEntry(0, 2));
        edges.tells("ofEntry: a closing is not gone", closed, 0, x -> x.ofEntry(0, 3));
        Edges.Made gone = () -> {
            Tollgate x = closed.ledger();
            x.open();
            return x;
        };
        edges.tells("ofEntry: gone", gone, 1, x -> x.ofEntry(0, 3));
        edges.tells("ofEntry: the day of one that is gone", gone, 364, x -> x.ofEntry(0, 0));
        edges.tells("ofEntry: the note of one that is gone", gone, 0, x -> x.ofEntry(0, 1));
        edges.tells("ofEntry: the legs of one that is gone", () -> {
            Tollgate x = Ledgers.closedAboveInt(1);
            x.open();
            return x;
        }, 3, x -> x.ofEntry(15, 2));
    }

    // Promise 13
    private static void ofLegArguments() {
        Edges.Made made = () -> Ledgers.withEntries(3);
        edges.range("ofLeg: entry", made, 0, 2, Edges.INDEX, (x, entry) -> x.ofLeg(entry, 0, 0));
        edges.range("ofLeg: leg", made, 0, 1, Edges.INDEX, (x, leg) -> x.ofLeg(0, leg, 0));
        edges.range("ofLeg: what", made, 0, 3, Edges.ARGUMENT, (x, what) -> x.ofLeg(0, 0, what));
        edges.refused("ofLeg: entry ahead of what", made, Edges.INDEX, x -> x.ofLeg(3, 0, 4));
        edges.refused("ofLeg: leg ahead of what", made, Edges.INDEX, x -> x.ofLeg(2, 2, -1));
        edges.refused("ofLeg: no leg of a closing without legs", () -> {
            Tollgate x = Ledgers.ofAllKinds();
            x.close(0, 4);
            return x;
        }, Edges.INDEX, x -> x.ofLeg(0, 0, 0));
        edges.refused("ofLeg: the leg behind the seventh", () -> {
            Tollgate x = summing(6, 6);
            x.post();
            return x;
        }, Edges.INDEX, x -> x.ofLeg(0, 7, 0));
    }

    private static void ofLegAnswers() {
        edges.tells("ofLeg: -1 without a line", () -> Ledgers.withEntries(1), -1, x -> x.ofLeg(0, 1, 3));
        edges.tells("ofLeg: line 0", () -> {
            Tollgate x = Ledgers.withThousand();
            x.line(0, 0, 1000);
            x.match(0, 0);
            return x;
        }, 0, x -> x.ofLeg(0, 0, 3));
        Edges.Made gone = () -> {
            Tollgate x = Ledgers.closedAboveInt(1);
            x.line(3, 0, 1);
            x.match(3, 0);
            x.open();
            return x;
        };
        edges.tells("ofLeg: the amount of one that is gone, above int", gone, -Ledgers.ABOVE_INT,
                x -> x.ofLeg(15, 2, 1));
        edges.tells("ofLeg: the worth of one that is gone, above int", gone, -Ledgers.ABOVE_INT,
                x -> x.ofLeg(15, 2, 2));
        edges.tells("ofLeg: the account of one that is gone", gone, 3, x -> x.ofLeg(15, 1, 0));
        edges.tells("ofLeg: one that is gone is not matched", gone, -1, x -> x.ofLeg(15, 1, 3));
        edges.answers("ofLeg: matched till it is gone", () -> {
            Tollgate x = Ledgers.closedAboveInt(1);
            x.line(3, 0, 1);
            x.match(3, 0);
            return x;
        }, 0, x -> x.ofLeg(15, 1, 3));
    }
}
