import java.util.NoSuchElementException;
import java.util.function.LongSupplier;

/** Counts what is not as due; end() tells it and ends the program with 1 if there was any. */
final class Check {
    static final long NO_SUCH = Long.MIN_VALUE + 1;
    static final long ARITHMETIC = Long.MIN_VALUE + 2;
    private static int checked = 0;
    private static int wrong = 0;
    private static String sentence = "";

    private Check() {
    }

    static void due(String what, long got, long want) {
        checked++;
        if (got != want) {
            wrong++;
            if (wrong <= 50) {
                System.out.println(sentence + what + " answered " + got + ", due is " + want);
            }
        }
    }

    static void due(String what, boolean got, boolean want) {
        due(what, got ? 1 : 0, want ? 1 : 0);
    }

    /** The two exceptions that the document names become numbers that no value can have. */
    static long answer(LongSupplier call) {
        try {
            return call.getAsLong();
        } catch (NoSuchElementException e) {
            return e.getClass() == NoSuchElementException.class ? NO_SUCH : Long.MIN_VALUE;
        } catch (ArithmeticException e) {
            return e.getClass() == ArithmeticException.class ? ARITHMETIC : Long.MIN_VALUE;
        }
    }

    static void noSuch(String what, LongSupplier call) {
        due(what, answer(call), NO_SUCH);
    }

    static void arithmetic(String what, LongSupplier call) {
        due(what, answer(call), ARITHMETIC);
    }

    /** The test of one sentence of the document; whatever ends it early leaves the others to run. */
    static void sentence(String words, Runnable test) {
        int before = checked;
        sentence = "[" + words + "] ";
        try {
            test.run();
        } catch (RuntimeException | Error e) {
            due("ended by " + e, 1, 0);
        }
        due("asks something", checked > before, true);
        sentence = "";
    }

    static void end() {
        System.out.println(checked + " checked, " + wrong + " wrong");
        if (wrong != 0 || checked == 0) {
            System.exit(1);
        }
    }
}
