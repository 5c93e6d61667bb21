import java.util.NoSuchElementException;
import java.util.function.LongSupplier;

/** Counts what is not as due; end() tells it and ends the program with 1 if there was any. */
final class Check {
    static final long NO_SUCH = Long.MIN_VALUE + 1;
    static final long ARITHMETIC = Long.MIN_VALUE + 2;
    private static int checked = 0;
    private static int wrong = 0;

    private Check() {
    }

    static void due(String what, long got, long want) {
        checked++;
        if (got != want) {
            wrong++;
            if (wrong <= 50) {
                System.out.println(what + " answered " + got + ", due is " + want);
            }
        }
    }

    static void due(String what, boolean got, boolean want) {
        due(what, got ? 1 : 0, want ? 1 : 0);
    }

    /** The two exceptions that the document names become numbers that no value can have. */
    static long answer(LongSupplier call) {
        try {
            return call.getAsLong();
        } catch (NoSuchElementException e) {
            return e.getClass() == NoSuchElementException.class ? NO_SUCH : Long.MIN_VALUE;
        } catch (ArithmeticException e) {
            return ARITHMETIC;
        }
    }

    static void end() {
        System.out.println(checked + " checked, " + wrong + " wrong");
        if (wrong != 0 || checked == 0) {
            System.exit(1);
        }
    }
}
