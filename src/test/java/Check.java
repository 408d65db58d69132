import java.util.function.LongSupplier;

/** Counts and prints the answers that are not as due. */
final class Check {
    private static int wrong = 0;

    private Check() {
    }

    static void due(String call, long want, long got) {
        if (got != want) {
            fail(call + " answered " + got + ", due is " + want);
        }
    }

    static void due(String call, String want, String got) {
        if (!got.equals(want)) {
            fail(call + " answered " + got + ", due is " + want);
        }
    }

    static void dueShare(String call, double want, double got) {
        if (Double.doubleToLongBits(got) != Double.doubleToLongBits(want)) {
            fail(call + " answered " + got + ", due is " + want);
        }
    }

    /** The exception must be of the named class itself, so that one of the machine's does not pass for it. */
    static void dueThrow(String call, Class<? extends RuntimeException> want, LongSupplier made) {
        due(call, "throws." + want.getSimpleName(), answer(made));
    }

    static void dueIndex(String call, LongSupplier made) {
        dueThrow(call, IndexOutOfBoundsException.class, made);
    }

    static void dueArgument(String call, LongSupplier made) {
        dueThrow(call, IllegalArgumentException.class, made);
    }

    static void dueState(String call, LongSupplier made) {
        dueThrow(call, IllegalStateException.class, made);
    }

    /** What a call answers, or the exception's name behind throws. */
    static String answer(LongSupplier made) {
        try {
            return Long.toString(made.getAsLong());
        } catch (RuntimeException e) {
            return "throws." + e.getClass().getSimpleName();
        }
    }

    /** Some properties of a thing by one call each, as "1 2 3". */
    static String row(int from, int to, java.util.function.IntUnaryOperator property) {
        StringBuilder row = new StringBuilder();
        for (int what = from; what <= to; what++) {
            row.append(what == from ? "" : " ").append(property.applyAsInt(what));
        }
        return row.toString();
    }

    static void write(FountainPark park, String text) {
        for (int i = 0; i < text.length(); i++) {
            park.append(text.charAt(i));
        }
    }

    static void fail(String what) {
        wrong++;
        System.out.println(what);
    }

    static void end() {
        if (wrong != 0) {
            System.out.println(wrong + " answers are not as due");
            System.exit(1);
        }
    }
}
