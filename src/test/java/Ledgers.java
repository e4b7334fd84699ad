/** Ledgers that the tests begin with. */
final class Ledgers {
    static final int HAVE = 0;
    static final int OWE = 1;
    static final int EARN = 2;
    static final int SPEND = 3;
    static final int OWN = 4;

    private Ledgers() {
    }

    /** One account of each kind, in the currency 0: the account's number is its kind. */
    static Tollgate ofAllKinds() {
        Tollgate ledger = new Tollgate();
        for (int kind = HAVE; kind <= OWN; kind++) {
            ledger.account(kind, 0);
        }
        return ledger;
    }

    /** As ofAllKinds(), and 1000 on account 0, from account 4, posted on day 0 with the note 7. */
    static Tollgate withThousand() {
        Tollgate ledger = ofAllKinds();
        post(ledger, 0, 7, HAVE, 1000, OWN, -1000);
        return ledger;
    }

    /** Drafts and posts an entry of legs that are told as account, amount, account, amount .. */
    static int post(Tollgate ledger, int day, int note, int... legs) {
        drafted(ledger, day, note, legs);
        return ledger.post();
    }

    static void drafted(Tollgate ledger, int day, int note, int... legs) {
        ledger.draft(day, note);
        for (int i = 0; i + 1 < legs.length; i += 2) {
            ledger.leg(legs[i], legs[i + 1]);
        }
    }

    /** Posts entries without effect on any sum till there are so many. */
    static void fillEntries(Tollgate ledger, int upTo, int day, int account) {
        int posted = 0;
        while (posted + 1 < upTo) {
            posted = post(ledger, day, 0, account, 1, account, -1);
        }
    }
}
