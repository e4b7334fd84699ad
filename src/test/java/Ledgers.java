/** Ledgers that the tests begin with. */
final class Ledgers {
    static final int HAVE = 0;
    static final int OWE = 1;
    static final int EARN = 2;
    static final int SPEND = 3;
    static final int OWN = 4;

    /** As an int this would wrap around to 5. */
    static final long ABOVE_INT = (1L << 32) + 5;

    private Ledgers() {
    }

    /** One account of each kind, in the currency 0: the account's number is its kind. */
    static Tollgate ofAllKinds() {
        Tollgate ledger = new Tollgate();
        for (int kind = HAVE; kind <= OWN; kind++) {
            ledger.account(kind, 0);
        }
        return ledger;
    }

    /** As ofAllKinds(), and 1000 on account 0, from account 4, posted on day 0 with the note 7. */
    static Tollgate withThousand() {
        Tollgate ledger = ofAllKinds();
        post(ledger, 0, 7, HAVE, 1000, OWN, -1000);
        return ledger;
    }

    /** Drafts and posts an entry of legs that are told as account, amount, account, amount .. */
    static int post(Tollgate ledger, int day, int note, int... legs) {
        drafted(ledger, day, note, legs);
        return ledger.post();
    }

    static void drafted(Tollgate ledger, int day, int note, int... legs) {
        ledger.draft(day, note);
        for (int i = 0; i + 1 < legs.length; i += 2) {
            ledger.leg(legs[i], legs[i + 1]);
        }
    }

    /** As ofAllKinds(), with so many entries, 1 at least, of day 0 and without effect on any sum. */
    static Tollgate withEntries(int count) {
        Tollgate ledger = ofAllKinds();
        post(ledger, 0, 0, EARN, 1, EARN, -1);
        for (int entry = 1; entry < count; entry++) {
            ledger.turnBack(0);
        }
        return ledger;
    }

    /** Posts entries without effect on any sum till there are so many. */
    static void fillEntries(Tollgate ledger, int upTo, int day, int account) {
        int posted = 0;
        while (posted + 1 < upTo) {
            posted = post(ledger, day, 0, account, 1, account, -1);
        }
    }

    /**
     * Fifteen entries of day 0 by which the accounts EARN earned sign * ABOVE_INT. The accounts: 0 OWN, 1 EARN and
     * 2 HAVE of the currency 1 at the greatest rate, 3 EARN, 4 HAVE.
     */
    static Tollgate earnedAboveInt(int sign) {
        Tollgate ledger = new Tollgate();
        ledger.rate(1, 100000);
        ledger.account(OWN, 0);
        ledger.account(EARN, 1);
        ledger.account(HAVE, 1);
        ledger.account(EARN, 0);
        ledger.account(HAVE, 0);
        int most = sign * 1000000;
        for (int entry = 0; entry < 14; entry++) {
            post(ledger, 0, 0, 1, -most, 1, -most, 1, -most, 2, most, 2, most, 2, most);
        }
        post(ledger, 0, 0, 1, sign * -949673, 2, sign * 949673, 3, -sign, 4, sign);
        return ledger;
    }

    /** As earnedAboveInt(), closed into account 0 by entry 15, of three legs. */
    static Tollgate closedAboveInt(int sign) {
        Tollgate ledger = earnedAboveInt(sign);
        ledger.close(0, 0);
        return ledger;
    }
}
