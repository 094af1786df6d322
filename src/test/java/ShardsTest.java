/** Promises 9 (split), 10 (join), 15 (shards), 16 (shardOf) and 17 (shard). */
public final class ShardsTest {
    public static void main(String[] args) {
        promise9Split();
        promise9Heat();
        promise9WrongInputs();
        promise9Refusals();
        promise10Join();
        promise10Refusals();
        promise15Shards();
        promise16ShardOf();
        promise17Shard();
        promise17WrongInputs();
        Due.end();
    }

    private static ShardHarbour withMachines() {
        ShardHarbour x = new ShardHarbour();
        x.machine(1000);
        x.machine(1000);
        return x;
    }

    private static void promise9Split() {
        ShardHarbour x = withMachines();
        x.write(0, 0, 1);
        x.write(299, 0, 2);
        x.write(300, 0, 4);
        x.write(599, 1, 8);
        x.write(600, 1, 16);
        x.write(999, 1, 32);
        Due.is("split(300)", x.split(300), 1);
        Due.is("bytes ahead", x.shard(0, 4), 3);
        Due.is("bytes behind", x.shard(1, 4), 60);
        Due.is("split(600)", x.split(600), 2);
        Due.is("bytes between", x.shard(1, 4), 12);
        Due.is("bytes behind", x.shard(2, 4), 48);
        Due.is("split(1)", x.split(1), 1);
        Due.is("split(999)", x.split(999), 4);
        int[] firsts = {0, 1, 300, 600, 999};
        int[] lasts = {0, 299, 599, 998, 999};
        int[] bytes = {1, 2, 12, 16, 32};
        for (int shard = 0; shard < 5; shard++) {
            Due.is("first key of " + shard, x.shard(shard, 0), firsts[shard]);
            Due.is("last key of " + shard, x.shard(shard, 1), lasts[shard]);
            Due.is("machine of " + shard, x.shard(shard, 2), 0);
            Due.is("bytes of " + shard, x.shard(shard, 4), bytes[shard]);
        }
        Due.is("the machine holds the same", x.machineOf(0, 0), 63);
        Due.is("with five shards", x.machineOf(0, 3), 5);
        x.move(3, 1);
        x.pass(1);
        Due.is("split(800)", x.split(800), 4);
        Due.is("the second one is on the same machine", x.shard(4, 2), 1);
        Due.is("the first one stays", x.shard(3, 2), 1);
        Due.is("the next one stays, too", x.shard(5, 2), 0);
    }

    private static void promise9Heat() {
        ShardHarbour x = withMachines();
        for (int i = 0; i < 7; i++) {
            x.read(900);
        }
        x.split(500);
        Due.is("half of 7 at the first one", x.shard(0, 6), 3);
        Due.is("the other heat at the second one", x.shard(1, 6), 4);
        x.split(900);
        Due.is("half of 4", x.shard(1, 6), 2);
        Due.is("half of 4", x.shard(2, 6), 2);
        Due.is("of the machine it is the same", x.machineOf(0, 2), 7);
    }

    private static void promise9WrongInputs() {
        for (int key : new int[] {0, -1, 1000, Integer.MIN_VALUE, Integer.MAX_VALUE}) {
            Due.refuses("split(" + key + ")", Due.NO_SUCH, ShardsTest::withMachines, x -> x.split(key));
            Due.refuses("split(" + key + ") of 16", Due.NO_SUCH, ShardsTest::withSixteen, x -> x.split(key));
        }
    }

    private static ShardHarbour withSixteen() {
        ShardHarbour x = withMachines();
        for (int key = 1; key <= 15; key++) {
            Due.is("split(" + key * 10 + ")", x.split(key * 10), key);
        }
        return x;
    }

    private static void promise9Refusals() {
        Due.refuses("a shard begins there", Due.NOT_NOW, () -> splitAndMoving(false), x -> x.split(500));
        Due.refuses("it moves", Due.NOT_NOW, () -> splitAndMoving(true), x -> x.split(499));
        Due.allows("the other one does not", () -> splitAndMoving(true), x -> x.split(501));
        Due.refuses("there are 16", Due.NOT_NOW, ShardsTest::withSixteen, x -> x.split(5));
        Due.allows("15 again", ShardsTest::withSixteen, x -> {
            Due.is("join", x.join(14), 15);
            Due.is("split(5)", x.split(5), 1);
        });
    }

    private static ShardHarbour splitAndMoving(boolean isMoving) {
        ShardHarbour x = withMachines();
        x.split(500);
        x.write(0, 0, 100);
        if (isMoving) {
            x.move(0, 1);
            x.pass(1);
        }
        return x;
    }

    private static void promise10Join() {
        ShardHarbour x = new ShardHarbour();
        x.split(100);
        x.split(200);
        x.split(300);
        Due.is("join without machines", x.join(1), 3);
        Due.is("first key", x.shard(1, 0), 100);
        Due.is("last key", x.shard(1, 1), 299);
        Due.is("the next one", x.shard(2, 0), 300);
        x.machine(1000);
        x.write(150, 0, 3);
        x.write(350, 0, 5);
        x.read(350);
        Due.is("join(1)", x.join(1), 2);
        Due.is("last key", x.shard(1, 1), 999);
        Due.is("bytes of both", x.shard(1, 4), 8);
        Due.is("heat of both", x.shard(1, 6), 3);
        Due.is("machine", x.shard(1, 2), 0);
        Due.is("join(0)", x.join(0), 1);
        Due.is("all keys", x.shard(0, 1) - x.shard(0, 0), 999);
        x.down(0, true);
        x.split(7);
        Due.is("one that is down can be joined", x.join(0), 1);
    }

    private static void promise10Refusals() {
        for (int shard : new int[] {-1, 2, Integer.MIN_VALUE, Integer.MAX_VALUE}) {
            Due.refuses("join(" + shard + ")", Due.NO_SUCH, () -> splitAndMoving(false), x -> x.join(shard));
        }
        Due.refuses("join of the last one", Due.NOT_NOW, () -> splitAndMoving(false), x -> x.join(1));
        Due.refuses("join of the only one", Due.NOT_NOW, ShardHarbour::new, x -> x.join(0));
        Due.refuses("the first one moves", Due.NOT_NOW, () -> splitAndMoving(true), x -> x.join(0));
        Due.refuses("the second one moves", Due.NOT_NOW, () -> {
            ShardHarbour x = splitAndMoving(false);
            x.move(1, 1);
            return x;
        }, x -> x.join(0));
        Due.refuses("on two machines", Due.NOT_NOW, ShardsTest::onTwoMachines, x -> x.join(0));
        ShardHarbour x = onTwoMachines();
        x.move(1, 1);
        x.pass(1);
        Due.is("on one again", x.join(0), 1);
        Due.is("the other one", x.shard(0, 2), 1);
    }

    private static ShardHarbour onTwoMachines() {
        ShardHarbour x = splitAndMoving(true);
        x.pass(1);
        return x;
    }

    private static void promise15Shards() {
        ShardHarbour x = new ShardHarbour();
        Due.is("shards", x.shards(), 1);
        x.split(1);
        x.split(2);
        Due.is("shards", x.shards(), 3);
        x.join(0);
        Due.is("shards", x.shards(), 2);
        Due.is("shards of 16", withSixteen().shards(), 16);
    }

    private static void promise16ShardOf() {
        ShardHarbour x = withSixteen();
        Due.is("shardOf(0)", x.shardOf(0), 0);
        Due.is("shardOf(9)", x.shardOf(9), 0);
        Due.is("shardOf(10)", x.shardOf(10), 1);
        Due.is("shardOf(149)", x.shardOf(149), 14);
        Due.is("shardOf(150)", x.shardOf(150), 15);
        Due.is("shardOf(999)", x.shardOf(999), 15);
        Due.is("without machines", new ShardHarbour().shardOf(999), 0);
        for (int key : new int[] {-1, 1000, Integer.MIN_VALUE, Integer.MAX_VALUE}) {
            Due.refuses("shardOf(" + key + ")", Due.NO_SUCH, ShardHarbour::new, y -> y.shardOf(key));
        }
    }

    private static void promise17Shard() {
        ShardHarbour x = new ShardHarbour();
        x.split(500);
        Due.is("no machine", x.shard(1, 2), ShardHarbour.NONE);
        x.machine(1000);
        x.machine(1000);
        x.write(500, 0, 30);
        x.write(501, 0, 30);
        x.read(502);
        Due.is("on 0", x.shard(1, 2), 0);
        Due.is("does not move", x.shard(1, 3), ShardHarbour.NONE);
        x.move(1, 1);
        Due.is("moves", x.shard(1, 3), 1);
        Due.is("nothing was copied", x.shard(1, 5), 0);
        x.pass(1);
        int[] want = {500, 999, 0, 1, 60, 30, 1};
        for (int what = 0; what <= 6; what++) {
            Due.is("shard(1, " + what + ")", x.shard(1, what), want[what]);
        }
        x.pass(1);
        int[] behind = {500, 999, 1, ShardHarbour.NONE, 60, 0, 0};
        for (int what = 0; what <= 6; what++) {
            Due.is("shard(1, " + what + ") behind the move", x.shard(1, what), behind[what]);
        }
        Due.is("the other one", x.shard(0, 4) + x.shard(0, 6), 0);
    }

    private static void promise17WrongInputs() {
        for (int shard : new int[] {-1, 1, 16, Integer.MIN_VALUE, Integer.MAX_VALUE}) {
            Due.refuses("shard(" + shard + ", 0)", Due.NO_SUCH, ShardHarbour::new, x -> x.shard(shard, 0));
            Due.refuses("shard(" + shard + ", 7)", Due.NO_SUCH, ShardHarbour::new, x -> x.shard(shard, 7));
        }
        for (int what : new int[] {-1, 7, Integer.MIN_VALUE, Integer.MAX_VALUE}) {
            Due.refuses("shard(0, " + what + ")", Due.OUT_OF_RANGE, ShardHarbour::new, x -> x.shard(0, what));
        }
    }
}
