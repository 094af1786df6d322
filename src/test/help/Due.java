import java.util.function.Consumer;
import java.util.function.ObjIntConsumer;
import java.util.function.Supplier;

/** Compares answers with those that are due, and ends a test program with exit code 1 if one was wrong. */
final class Due {
    static final Class<? extends RuntimeException> NO_SUCH = IndexOutOfBoundsException.class;
    static final Class<? extends RuntimeException> OUT_OF_RANGE = IllegalArgumentException.class;
    static final Class<? extends RuntimeException> NOT_NOW = IllegalStateException.class;

    private static int right = 0;
    private static int wrong = 0;

    private Due() {
    }

    static void is(String what, long got, long want) {
        tell(got == want, what + " answered " + got + ", due is " + want);
    }

    static void is(String what, boolean got, boolean want) {
        tell(got == want, what + " answered " + got + ", due is " + want);
    }

    static void same(String what, Object got, Object want) {
        tell(got.equals(want), what + " is " + got + ", due is " + want);
    }

    /**
     * Makes the call on objects that were made alike, and looks whether it throws exactly this exception
     * and whether that object tells of itself, and answers later calls, as one without the call.
     */
    static void refuses(String what, Class<? extends RuntimeException> kind,
            Supplier<ShardHarbour> made, Consumer<ShardHarbour> call) {
        ShardHarbour called = made.get();
        same(what, outcomeOf(called, call), kind.getName());
        same(what + ": the state behind it", State.of(called), State.of(made.get()));
        ShardHarbour calledToo = made.get();
        outcomeOf(calledToo, call);
        same(what + ": later calls", Later.of(calledToo), Later.of(made.get()));
    }

    /** An argument: the last values that are good and the first ones that are not, on both sides. */
    static void range(String what, int least, int most, Class<? extends RuntimeException> kind,
            Supplier<ShardHarbour> made, ObjIntConsumer<ShardHarbour> call) {
        for (int good : new int[] {least, most}) {
            allows(what + " " + good, made, x -> call.accept(x, good));
        }
        for (int bad : new int[] {least - 1, most + 1, Integer.MIN_VALUE, Integer.MAX_VALUE}) {
            refuses(what + " " + bad, kind, made, x -> call.accept(x, bad));
        }
    }

    /** Makes a call that must not throw. */
    static void allows(String what, Supplier<ShardHarbour> made, Consumer<ShardHarbour> call) {
        same(what, outcomeOf(made.get(), call), "nothing thrown");
    }

    private static String outcomeOf(ShardHarbour called, Consumer<ShardHarbour> call) {
        try {
            call.accept(called);
            return "nothing thrown";
        } catch (RuntimeException thrown) {
            return thrown.getClass().getName();
        }
    }

    private static void tell(boolean isRight, String message) {
        if (isRight) {
            right++;
        } else {
            wrong++;
            System.out.println(message);
        }
    }

    static void end() {
        System.out.println(right + " answers as due, " + wrong + " not");
        if (wrong != 0 || right == 0) {
            System.exit(1);
        }
    }
}
