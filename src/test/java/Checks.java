import java.util.function.Supplier;

/** The checks that tests make. The first one that fails ends its test. */
final class Checks {
    private Checks() {
    }

    static void due(Object want, Object got, String what) {
        if (!want.equals(got)) {
            throw new AssertionError(what + ": got " + got + ", due is " + want);
        }
    }

    static void due(Object want, Object got) {
        due(want, got, "answer");
    }

    static void refused(Class<? extends RuntimeException> want, Supplier<Object> call) {
        due(want.getSimpleName(), outcome(call) instanceof Class<?> thrown ? thrown.getSimpleName() : "an answer");
    }

    /** Returns the answer, or the class of the exception that the call throws. */
    static Object outcome(Supplier<Object> call) {
        try {
            return call.get();
        } catch (RuntimeException thrown) {
            return thrown.getClass();
        }
    }
}
