import java.lang.reflect.InvocationTargetException;
import java.lang.reflect.Method;
import java.lang.reflect.Modifier;
import java.util.Arrays;
import java.util.HashMap;
import java.util.Map;

/**
 * All promises: long runs of calls, each of whose answers is compared with that of the model. A run in two
 * asks for everything in its last calls.
 */
public final class ModelTest {
    private static final int RUNS = 1600;
    private static final int CALLS = 512;
    /** So many calls ask for everything at most: 7 of each shard, 4 of each machine, and so on. */
    private static final int CALLS_THAT_ASK = 3 + 7 * 16 + 4 * 6 + 4 * 4 + 2 * 36;
    private static final String[] NAMES = {"machine", "down", "quota", "limit", "write", "take", "read", "split",
        "join", "move", "callOff", "pass", "hour", "shards", "shardOf", "shard", "machineOf", "tenant", "billAnew",
        "whereAnew", "moves"};
    /** How often each call comes, of all calls of a run. */
    private static final int[] SHARES = {4, 4, 5, 4, 60, 12, 14, 14, 7, 30, 4, 26, 1, 1, 3, 50, 30, 20, 8, 10, 8};
    private static final int[] WILD = {-1, Integer.MIN_VALUE, Integer.MAX_VALUE, 1000, 16, 7, 20001, -2};

    private static final Map<String, Method> METHODS = new HashMap<>();
    private static long seed;
    private static final int[] OUTCOMES = new int[NAMES.length * 2];
    private static int movesDone;
    private static int movesFailed;
    private static int runsWithSixteen;

    public static void main(String[] args) {
        for (int run = 0; run < RUNS; run++) {
            seed = run;
            boolean isAsDue = runAnswersAsModel(run, run % 2 == 0 ? CALLS : CALLS - CALLS_THAT_ASK);
            Due.is("run " + run + " is as the model", isAsDue, true);
            if (!isAsDue) {
                break;
            }
        }
        for (int i = 0; i < NAMES.length; i++) {
            Due.is(NAMES[i] + " answered often", OUTCOMES[i * 2] > 500, true);
        }
        Due.is("moves were often done", movesDone > 5000, true);
        Due.is("moves often failed", movesFailed > 3000, true);
        Due.is("often there were 16 shards", runsWithSixteen > 50, true);
        Due.end();
    }

    private static boolean runAnswersAsModel(int run, int calls) {
        ShardHarbour x = new ShardHarbour();
        Model model = new Model();
        int machinesAtFirst = next(7);
        int roomFactor = 1 + next(6);
        int keys = next(8) == 0 ? 1000 : 5 + next(40);
        int hours = next(4) == 0 ? 200 : 1 + next(5);
        for (int i = 0; i < calls; i++) {
            int op = i < machinesAtFirst ? 0 : nextOp();
            int[] given = arguments(op, roomFactor, keys, hours);
            if (next(40) == 0) {
                given[next(3)] = WILD[next(WILD.length)];
            }
            if (!answersAsModel(x, model, op, given)) {
                System.out.println("that was call " + i + " of run " + run);
                return false;
            }
        }
        movesDone += model.moves(true);
        movesFailed += model.moves(false);
        runsWithSixteen += model.shards() == 16 ? 1 : 0;
        return calls == CALLS || allIsAsModel(x, model);
    }

    private static boolean answersAsModel(ShardHarbour x, Model model, int op, int... given) {
        String got = outcome(x, op, given);
        String want = outcome(model, op, given);
        OUTCOMES[op * 2 + (want.startsWith("throws") ? 1 : 0)]++;
        if (got.equals(want)) {
            return true;
        }
        System.out.println(NAMES[op] + "(" + given[0] + ", " + given[1] + ", " + given[2] + ") " + got
            + ", due is " + want);
        return false;
    }

    private static boolean allIsAsModel(ShardHarbour x, Model model) {
        boolean isSame = eachIsAsModel(x, model, "shard", model.shards(), 7)
            && eachIsAsModel(x, model, "machineOf", 6, 4)
            && eachIsAsModel(x, model, "tenant", 4, 3)
            && eachIsAsModel(x, model, "billAnew", 4, 1)
            && eachIsAsModel(x, model, "moves", 2, 1)
            && eachIsAsModel(x, model, "hour", 1, 1);
        for (int key = next(28); key < 1000 && isSame; key += 28) {
            isSame = answersAsModel(x, model, numberOf("whereAnew"), key, 0, 0)
                && answersAsModel(x, model, numberOf("shardOf"), key, 0, 0);
        }
        return isSame;
    }

    private static boolean eachIsAsModel(ShardHarbour x, Model model, String name, int count, int whats) {
        for (int number = 0; number < count; number++) {
            for (int what = 0; what < whats; what++) {
                if (!answersAsModel(x, model, numberOf(name), number, what, 0)) {
                    return false;
                }
            }
        }
        return true;
    }

    private static int numberOf(String name) {
        return Arrays.asList(NAMES).indexOf(name);
    }

    private static int next(int bound) {
        seed = seed * 6364136223846793005L + 1442695040888963407L;
        return (int) Long.remainderUnsigned(seed >>> 33, bound);
    }

    private static int nextOp() {
        int sum = 0;
        for (int share : SHARES) {
            sum += share;
        }
        int at = next(sum);
        int op = 0;
        while (at >= SHARES[op]) {
            at -= SHARES[op];
            op++;
        }
        return op;
    }

    /** Mostly one of the first few, of which there are some in most runs. */
    private static int nextOf(int few, int most) {
        return next(3) == 0 ? next(most) : next(few);
    }

    private static int nextKey(int keys) {
        return next(12) == 0 ? next(1000) : next(keys);
    }

    private static int[] arguments(int op, int roomFactor, int keys, int hours) {
        switch (NAMES[op]) {
            case "machine":
                return new int[] {100 + next(roomFactor * 100), 0, 0};
            case "down":
                return new int[] {nextOf(3, 7), next(3) == 0 ? 1 : 0, 0};
            case "quota":
                return new int[] {next(4), next(4) == 0 ? next(20001) : next(900), 0};
            case "limit":
                return new int[] {next(12), 0, 0};
            case "write":
                return new int[] {nextKey(keys), next(4), 1 + next(next(2) == 0 ? 100 : 30)};
            case "callOff":
                return new int[] {nextOf(3, 16), 0, 0};
            case "join":
            case "shard":
                return new int[] {nextOf(5, 17), next(7), 0};
            case "move":
                return new int[] {nextOf(5, 17), nextOf(3, 7), 0};
            case "pass":
                return new int[] {1 + next(hours), 0, 0};
            case "machineOf":
                return new int[] {nextOf(3, 7), next(4), 0};
            case "tenant":
            case "billAnew":
                return new int[] {next(4), next(3), 0};
            case "moves":
                return new int[] {next(2), 0, 0};
            default:
                return new int[] {nextKey(keys), 0, 0};
        }
    }

    /** Both faces are the same, so that one call by name serves both. */
    private static String outcome(Object asked, int op, int[] given) {
        Method method = METHODS.computeIfAbsent(asked.getClass().getName() + NAMES[op],
            any -> named(asked.getClass(), NAMES[op]));
        Class<?>[] types = method.getParameterTypes();
        Object[] arguments = new Object[types.length];
        for (int i = 0; i < types.length; i++) {
            arguments[i] = types[i] == boolean.class ? (Object) (given[i] == 1) : (Object) given[i];
        }
        try {
            return "answered " + method.invoke(asked, arguments);
        } catch (InvocationTargetException thrown) {
            return "throws " + thrown.getCause().getClass().getName();
        } catch (IllegalAccessException hidden) {
            return "can't be called";
        }
    }

    private static Method named(Class<?> face, String name) {
        for (Method method : face.getDeclaredMethods()) {
            if (method.getName().equals(name) && !Modifier.isPrivate(method.getModifiers())) {
                return method;
            }
        }
        throw new IllegalArgumentException(name);
    }
}
