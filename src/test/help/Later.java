import java.util.function.Supplier;

/**
 * What an object answers to later calls that change it, as a text: the limit, what a move has left of the
 * hours before and which keys it copied are asked by no question, but show in these.
 */
final class Later {
    private Later() {
    }

    static String of(ShardHarbour x) {
        StringBuilder text = new StringBuilder();
        add(text, "pass(1)", () -> x.pass(1));
        text.append('\n').append(State.of(x));
        add(text, "pass(1)", () -> x.pass(1));
        add(text, "limit(0)", () -> x.limit(0));
        add(text, "machine(100)", () -> x.machine(100));
        for (int shard = 0; shard < Math.min(3, x.shards()); shard++) {
            int last = x.shard(shard, 1);
            add(text, "write at its last key", () -> x.write(last, 3, 7));
            add(text, "take at its last key", () -> x.take(last));
        }
        add(text, "callOff(0)", () -> x.callOff(0));
        add(text, "move(0, 1)", () -> x.move(0, 1));
        add(text, "split(997)", () -> x.split(997));
        add(text, "join(0)", () -> x.join(0));
        add(text, "pass(1)", () -> x.pass(1));
        text.append('\n').append(State.of(x));
        return text.toString();
    }

    private static void add(StringBuilder text, String call, Supplier<Integer> made) {
        text.append("\n  ").append(call).append(' ');
        try {
            text.append(made.get());
        } catch (RuntimeException thrown) {
            text.append(thrown.getClass().getName());
        }
    }
}
