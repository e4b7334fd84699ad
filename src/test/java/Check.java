import java.util.function.DoubleSupplier;
import java.util.function.LongSupplier;

/** Compares answers with what is due, tells each that differs, and ends the test with 1 if there was one. */
final class Check {
    static final Class<IndexOutOfBoundsException> INDEX = IndexOutOfBoundsException.class;
    static final Class<IllegalArgumentException> ARGUMENT = IllegalArgumentException.class;
    static final Class<IllegalStateException> STATE = IllegalStateException.class;

    private final String test;
    private int wrong = 0;
    private int asked = 0;

    Check(String test) {
        this.test = test;
    }

    void same(String what, long got, long want) {
        asked++;
        if (got != want) {
            tell(what + " answered " + got + ", due is " + want);
        }
    }

    void same(String what, double got, double want) {
        asked++;
        if (got != want) {
            tell(what + " answered " + got + ", due is " + want);
        }
    }

    void same(String what, String got, String want) {
        asked++;
        if (!got.equals(want)) {
            tell(what + " answered " + got + ", due is " + want);
        }
    }

    void holds(String what, boolean isSo) {
        asked++;
        if (!isSo) {
            tell(what);
        }
    }

    /** The call throws exactly that class, and the ledger is as it was. */
    void refused(String what, Tollgate ledger, Class<? extends RuntimeException> due, LongSupplier call) {
        asked++;
        long before = ledger.digest();
        Class<?> thrown = null;
        try {
            call.getAsLong();
        } catch (RuntimeException e) {
            thrown = e.getClass();
        }
        if (thrown != due) {
            tell(what + " threw " + thrown + ", due is " + due);
        }
        if (ledger.digest() != before) {
            tell(what + " changed the ledger");
        }
    }

    void unchanged(String what, Tollgate ledger, DoubleSupplier call) {
        asked++;
        long before = ledger.digest();
        call.getAsDouble();
        if (ledger.digest() != before) {
            tell(what + " changed the ledger");
        }
    }

    void tell(String text) {
        wrong++;
        System.out.println(test + ": " + text);
    }

    void end() {
        System.out.println(test + ": " + asked + " checks, " + wrong + " wrong");
        if (wrong != 0) {
            System.exit(1);
        }
    }
}
