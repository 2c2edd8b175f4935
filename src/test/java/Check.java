import java.util.function.LongSupplier;

/** Counts answers that are not as due; a test's main ends with {@link #end}. */
final class Check {
    private static int asked = 0;
    private static int wrong = 0;

    private Check() {
    }

    static void same(String what, long want, long got) {
        asked++;
        if (got != want) {
            wrong++;
            System.out.println(what + " answered " + got + ", due is " + want);
        }
    }

    static void told(String what, String want, String got) {
        asked++;
        if (!got.equals(want)) {
            wrong++;
            System.out.println(what + " answered " + got + ", due is " + want);
        }
    }

    static void isTrue(String what, boolean holds) {
        same(what, 1, holds ? 1 : 0);
    }

    static void noSuch(String what, LongSupplier call) {
        fails(what, IndexOutOfBoundsException.class, call);
    }

    static void badArgument(String what, LongSupplier call) {
        fails(what, IllegalArgumentException.class, call);
    }

    static void badState(String what, LongSupplier call) {
        fails(what, IllegalStateException.class, call);
    }

    private static void fails(String what, Class<?> want, LongSupplier call) {
        asked++;
        String got;
        try {
            got = "answered " + call.getAsLong();
        } catch (RuntimeException e) {
            if (e.getClass() == want) {
                return;
            }
            got = "threw " + e.getClass().getSimpleName();
        }
        wrong++;
        System.out.println(what + " " + got + ", due is " + want.getSimpleName());
    }

    static void end() {
        System.out.println(asked + " answers asked, " + wrong + " not as due");
        if (wrong != 0 || asked == 0) {
            System.exit(1);
        }
    }
}
