/** All that an object tells of itself without being changed, as a text. */
final class State {
    private State() {
    }

    static String of(ShardHarbour x) {
        StringBuilder text = new StringBuilder();
        text.append("hour ").append(x.hour());
        text.append(", done ").append(x.moves(true)).append(", failed ").append(x.moves(false));
        for (int shard = 0; shard < x.shards(); shard++) {
            text.append("\n  shard ").append(shard).append(':');
            for (int what = 0; what <= 6; what++) {
                text.append(' ').append(x.shard(shard, what));
            }
            int first = x.shard(shard, 0);
            text.append(", of its first key ").append(x.shardOf(first));
            text.append(", there anew ").append(x.whereAnew(first));
        }
        for (int machine = 0; isMachine(x, machine); machine++) {
            text.append("\n  machine ").append(machine).append(':');
            for (int what = 0; what <= 3; what++) {
                text.append(' ').append(x.machineOf(machine, what));
            }
        }
        for (int tenant = 0; tenant <= 3; tenant++) {
            text.append("\n  tenant ").append(tenant).append(':');
            for (int what = 0; what <= 2; what++) {
                text.append(' ').append(x.tenant(tenant, what));
            }
            text.append(", billed anew ").append(x.billAnew(tenant));
        }
        return text.toString();
    }

    private static boolean isMachine(ShardHarbour x, int machine) {
        try {
            x.machineOf(machine, 0);
            return true;
        } catch (IndexOutOfBoundsException none) {
            return false;
        }
    }
}
