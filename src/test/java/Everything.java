import java.util.ArrayList;
import java.util.List;

/**
 * What a ledger answers to all that asks, and then to calls that bring to light what cannot be asked for (rates,
 * the draft, the account exchange, last days of holds, closings): it uses the ledger up, in some 200 calls.
 */
final class Everything {
    private static final int[] DAYS_ON = {0, 1, 2, 3, 4, 5, 9, 364};
    private static final int[] WITHIN = {0, 1, 2, 30};

    private final Tollgate x;
    private final List<String> told = new ArrayList<>();

    private Everything(Tollgate x) {
        this.x = x;
    }

    static List<String> of(Tollgate x) {
        Everything everything = new Everything(x);
        everything.askAll();
        everything.askAccounts();
        everything.useDraft();
        everything.useExchange();
        everything.useHolds();
        everything.matchAll();
        everything.openAll();
        return everything.told;
    }

    private void tell(String what, Edges.Call call) {
        told.add(what + " " + Edges.outcome(x, call));
    }

    private void askAll() {
        for (int what = 0; what <= 5; what++) {
            int w = what;
            tell("many " + what, y -> y.many(w));
        }
        tell("digest", Tollgate::digest);
        tell("earned", y -> y.earned(0, 364));
        tell("meanLegs", y -> Double.doubleToLongBits(y.meanLegs()));
        for (int currency = 1; currency <= 3; currency++) {
            int c = currency;
            tell("rate " + currency, y -> y.rate(c, 777));
        }
    }

    private void askAccounts() {
        for (int account = 0; account < x.many(0); account++) {
            int a = account;
            for (int days : DAYS_ON) {
                int day = Math.min(364, x.many(4) + days);
                tell("hadOn " + account + " " + day, y -> y.hadOn(a, day));
            }
            for (int days : WITHIN) {
                tell("wouldMatch " + account + " " + days, y -> y.wouldMatch(a, days));
            }
        }
    }

    private void useDraft() {
        tell("post", Tollgate::post);
        tell("leg", y -> y.leg(0, 1));
        tell("another leg", y -> y.leg(0, -1));
        tell("reason", Tollgate::reason);
        tell("post then", Tollgate::post);
        tell("draft", y -> y.draft(364, 0));
        tell("digest then", Tollgate::digest);
    }

    private void useExchange() {
        for (int account = 0; account < x.many(0); account++) {
            int a = account;
            tell("exchange " + account, y -> y.exchange(a));
        }
    }

    private void useHolds() {
        for (int hold = 0; hold < 20; hold++) {
            int h = hold;
            tell("letGo " + hold, y -> y.letGo(h));
        }
    }

    private void matchAll() {
        for (int account = 0; account < x.many(0); account++) {
            int a = account;
            tell("match " + account, y -> y.match(a, 2));
        }
        tell("digest, matched", Tollgate::digest);
    }

    private void openAll() {
        for (int i = 0; i < 4; i++) {
            tell("open", Tollgate::open);
        }
        tell("digest, opened", Tollgate::digest);
        tell("pass", y -> y.pass(2));
        tell("the last digest", Tollgate::digest);
    }
}
