import java.util.List;

/**
 * Asks calls at the edges that the document names. Each check has a ledger of its own, made by Made; a call that
 * must change nothing is compared, in everything that is told afterwards, with a second ledger that never had it.
 */
final class Edges {
    interface Made {
        Tollgate ledger();
    }

    interface Call {
        long on(Tollgate ledger);
    }

    interface WithNumber {
        long on(Tollgate ledger, int number);
    }

    static final Class<IndexOutOfBoundsException> INDEX = Check.INDEX;
    static final Class<IllegalArgumentException> ARGUMENT = Check.ARGUMENT;
    static final Class<IllegalStateException> STATE = Check.STATE;

    private final Check check;

    Edges(String test) {
        check = new Check(test);
    }

    /** The call answers that. */
    void answers(String edge, Made made, long due, Call call) {
        check.same(edge, outcome(made.ledger(), call), Long.toString(due));
    }

    /** The call answers that, and changes nothing. */
    void tells(String edge, Made made, long due, Call call) {
        changesNothing(edge, made, Long.toString(due), call);
    }

    /** The call throws just that, and changes nothing. */
    void refused(String edge, Made made, Class<? extends RuntimeException> due, Call call) {
        changesNothing(edge, made, due.getName(), call);
    }

    /** The call is answered for from and for to; what lies next to them, and the ends of int, are refused. */
    void range(String edge, Made made, int from, int to, Class<? extends RuntimeException> due, WithNumber call) {
        taken(edge, made, from, call);
        taken(edge, made, to, call);
        for (int number : new int[] {from - 1, to + 1, Integer.MIN_VALUE, Integer.MAX_VALUE}) {
            refused(edge + ", " + number, made, due, x -> call.on(x, number));
        }
    }

    private void taken(String edge, Made made, int number, WithNumber call) {
        String got = outcome(made.ledger(), x -> call.on(x, number));
        check.holds(edge + ", " + number + ": threw " + got, !got.endsWith("Exception"));
    }

    private void changesNothing(String edge, Made made, String due, Call call) {
        Tollgate asked = made.ledger();
        check.same(edge, outcome(asked, call), due);
        List<String> got = Everything.of(asked);
        List<String> want = Everything.of(made.ledger());
        check.same(edge + ": told afterwards", got.toString(), want.toString());
    }

    void end() {
        check.end();
    }

    static String outcome(Tollgate ledger, Call call) {
        try {
            return Long.toString(call.on(ledger));
        } catch (RuntimeException e) {
            return e.getClass().getName();
        }
    }
}
