/** Promises 9 (split), 10 (join), 15 (shards), 16 (shardOf) and 17 (shard). */
public final class ShardsTest {
    public static void main(String[] args) {
        promise9Split();
        promise9Heat();
        promise9WhereItMay();
        promise9Ranges();
        promise9Refusals();
        promise9Sixteen();
        promise10Join();
        promise10Ranges();
        promise10Refusals();
        promise10OfTwoMachines();
        promise10AndSplitAgain();
        promise15Shards();
        promise16ShardOf();
        promise17Shard();
        promise17ManyShards();
        promise17Ranges();
        Due.end();
    }

    private static ShardHarbour withMachines() {
        ShardHarbour x = new ShardHarbour();
        x.machine(1000);
        x.machine(1000);
        return x;
    }

    private static void promise9Split() {
        ShardHarbour x = withMachines();
        x.write(0, 0, 1);
        x.write(299, 0, 2);
        x.write(300, 0, 4);
        x.write(599, 1, 8);
        x.write(600, 1, 16);
        x.write(999, 1, 32);
        Due.is("split(300)", x.split(300), 1);
        Due.is("bytes ahead", x.shard(0, 4), 3);
        Due.is("bytes behind", x.shard(1, 4), 60);
        Due.is("split(600)", x.split(600), 2);
        Due.is("bytes between", x.shard(1, 4), 12);
        Due.is("bytes behind", x.shard(2, 4), 48);
        Due.is("split(1)", x.split(1), 1);
        Due.is("split(999)", x.split(999), 4);
        int[] firsts = {0, 1, 300, 600, 999};
        int[] lasts = {0, 299, 599, 998, 999};
        int[] bytes = {1, 2, 12, 16, 32};
        for (int shard = 0; shard < 5; shard++) {
            Due.is("first key of " + shard, x.shard(shard, 0), firsts[shard]);
            Due.is("last key of " + shard, x.shard(shard, 1), lasts[shard]);
            Due.is("machine of " + shard, x.shard(shard, 2), 0);
            Due.is("bytes of " + shard, x.shard(shard, 4), bytes[shard]);
        }
        Due.is("the machine holds the same", x.machineOf(0, 0), 63);
        Due.is("with five shards", x.machineOf(0, 3), 5);
        x.move(3, 1);
        x.pass(1);
        Due.is("split(800)", x.split(800), 4);
        Due.is("the second one is on the same machine", x.shard(4, 2), 1);
        Due.is("the first one stays", x.shard(3, 2), 1);
        Due.is("the next one stays, too", x.shard(5, 2), 0);
        Due.is("the second one does not move", x.shard(4, 3), ShardHarbour.NONE);
    }

    private static ShardHarbour withHeat(int heat) {
        ShardHarbour x = withMachines();
        for (int i = 0; i < heat; i++) {
            x.read(900);
        }
        return x;
    }

    private static void promise9Heat() {
        int[] halves = {0, 0, 1, 1, 2, 2, 3, 3};
        for (int heat = 0; heat < halves.length; heat++) {
            ShardHarbour x = withHeat(heat);
            x.split(500);
            Due.is("half of " + heat + " at the first one", x.shard(0, 6), halves[heat]);
            Due.is("the other heat at the second one", x.shard(1, 6), heat - halves[heat]);
            Due.is("of the machine it is the same", x.machineOf(0, 2), heat);
        }
        ShardHarbour y = withHeat(7);
        y.split(500);
        y.split(900);
        Due.is("half of 4", y.shard(1, 6), 2);
        Due.is("half of 4", y.shard(2, 6), 2);
    }

    private static void promise9WhereItMay() {
        Due.is("without machines", new ShardHarbour().split(1), 1);
        ShardHarbour x = withMachines();
        x.down(0, true);
        Due.is("of a machine that is down", x.split(999), 1);
        ShardHarbour y = splitAndMoving(true);
        Due.is("of one beside one that moves", y.split(501), 2);
        Due.is("the one that moves goes on", y.shard(0, 3), 1);
        y.callOff(0);
        Due.is("of one that was called off", y.split(499), 1);
        ShardHarbour z = splitAndMoving(true);
        z.pass(1);
        Due.is("of one that cut over", z.split(1), 1);
        Due.is("both are where it is", z.shard(0, 2) * 10 + z.shard(1, 2), 11);
    }

    private static void promise9Ranges() {
        Due.range("split at", 1, 999, Due.NO_SUCH, ShardsTest::withMachines, (x, key) -> x.split(key));
        Due.range("split without machines at", 1, 999, Due.NO_SUCH, ShardHarbour::new,
            (x, key) -> x.split(key));
        Due.range("the sixteenth at", 1, 999, Due.NO_SUCH, () -> withShards(15), (x, key) -> x.split(key));
        for (int key : new int[] {-1, 0, 1000}) {
            Due.refuses("split(" + key + ") of 16", Due.NO_SUCH, () -> withShards(16), x -> x.split(key));
            Due.refuses("split(" + key + ") of one that moves", Due.NO_SUCH, () -> splitAndMoving(true),
                x -> x.split(key));
        }
    }

    /** The shards but the first one begin at 10, 20 and so on. */
    private static ShardHarbour withShards(int count) {
        ShardHarbour x = withMachines();
        for (int number = 1; number < count; number++) {
            x.split(number * 10);
        }
        return x;
    }

    private static void promise9Refusals() {
        Due.refuses("a shard begins there", Due.NOT_NOW, () -> splitAndMoving(false), x -> x.split(500));
        Due.allows("the key ahead", () -> splitAndMoving(false), x -> x.split(499));
        Due.allows("the key behind", () -> splitAndMoving(false), x -> x.split(501));
        Due.refuses("one of a single key", Due.NOT_NOW, () -> {
            ShardHarbour x = withMachines();
            x.split(999);
            return x;
        }, x -> x.split(999));
        Due.refuses("it moves", Due.NOT_NOW, () -> splitAndMoving(true), x -> x.split(499));
        Due.refuses("it moves, and nothing was copied", Due.NOT_NOW, () -> {
            ShardHarbour x = splitAndMoving(false);
            x.move(0, 1);
            return x;
        }, x -> x.split(1));
    }

    private static void promise9Sixteen() {
        ShardHarbour x = withMachines();
        for (int number = 1; number <= 15; number++) {
            Due.is("split(" + number * 10 + ")", x.split(number * 10), number);
        }
        Due.is("16", x.shards(), 16);
        for (int key : new int[] {1, 5, 75, 151, 999}) {
            Due.refuses("there are 16", Due.NOT_NOW, () -> withShards(16), y -> y.split(key));
        }
        Due.refuses("16, and one begins there", Due.NOT_NOW, () -> withShards(16), y -> y.split(150));
        Due.is("join of the last two", x.join(14), 15);
        Due.is("the sixteenth again, as the second one", x.split(5), 1);
        Due.is("16 again", x.shards(), 16);
        Due.is("the last one ends with the last key", x.shard(15, 1), 999);
        Due.is("and begins where it did", x.shard(15, 0), 140);
    }

    private static ShardHarbour splitAndMoving(boolean isMoving) {
        ShardHarbour x = withMachines();
        x.split(500);
        x.write(0, 0, 100);
        if (isMoving) {
            x.move(0, 1);
            x.pass(1);
        }
        return x;
    }

    private static void promise10Join() {
        ShardHarbour x = new ShardHarbour();
        x.split(100);
        x.split(200);
        x.split(300);
        Due.is("join without machines", x.join(1), 3);
        Due.is("first key", x.shard(1, 0), 100);
        Due.is("last key", x.shard(1, 1), 299);
        Due.is("the next one", x.shard(2, 0), 300);
        x.machine(1000);
        x.write(150, 0, 3);
        x.write(350, 0, 5);
        x.read(350);
        Due.is("join(1)", x.join(1), 2);
        Due.is("last key", x.shard(1, 1), 999);
        Due.is("bytes of both", x.shard(1, 4), 8);
        Due.is("heat of both", x.shard(1, 6), 3);
        Due.is("machine", x.shard(1, 2), 0);
        Due.is("join(0)", x.join(0), 1);
        Due.is("all keys", x.shard(0, 1) - x.shard(0, 0), 999);
        x.down(0, true);
        x.split(7);
        Due.is("one that is down can be joined", x.join(0), 1);
        ShardHarbour y = withMachines();
        y.split(500);
        y.read(0);
        y.read(999);
        y.read(999);
        y.join(0);
        Due.is("the heat of both is not halved", y.shard(0, 6), 3);
    }

    private static void promise10Ranges() {
        for (int shard = 0; shard <= 14; shard++) {
            int first = shard;
            Due.allows("join(" + shard + ") of 16", () -> withShards(16), x -> x.join(first));
        }
        for (int shard : new int[] {-1, 16, Integer.MIN_VALUE, Integer.MAX_VALUE}) {
            Due.refuses("join(" + shard + ") of 16", Due.NO_SUCH, () -> withShards(16), x -> x.join(shard));
        }
        for (int shard : new int[] {-1, 2, Integer.MIN_VALUE, Integer.MAX_VALUE}) {
            Due.refuses("join(" + shard + ") of 2", Due.NO_SUCH, () -> splitAndMoving(false),
                x -> x.join(shard));
            Due.refuses("join(" + shard + ") of 2, one moves", Due.NO_SUCH, () -> splitAndMoving(true),
                x -> x.join(shard));
        }
        for (int shard : new int[] {-1, 1, 15, 16}) {
            Due.refuses("join(" + shard + ") of 1", Due.NO_SUCH, ShardHarbour::new, x -> x.join(shard));
        }
    }

    private static void promise10Refusals() {
        Due.refuses("join of the last one", Due.NOT_NOW, () -> splitAndMoving(false), x -> x.join(1));
        Due.refuses("join of the only one", Due.NOT_NOW, ShardsTest::withMachines, x -> x.join(0));
        Due.refuses("join of the only one without machines", Due.NOT_NOW, ShardHarbour::new, x -> x.join(0));
        Due.refuses("join of the sixteenth", Due.NOT_NOW, () -> withShards(16), x -> x.join(15));
        Due.refuses("the first one moves", Due.NOT_NOW, () -> splitAndMoving(true), x -> x.join(0));
        Due.refuses("the second one moves", Due.NOT_NOW, () -> {
            ShardHarbour x = splitAndMoving(false);
            x.move(1, 1);
            return x;
        }, x -> x.join(0));
        Due.refuses("both move", Due.NOT_NOW, () -> {
            ShardHarbour x = splitAndMoving(true);
            x.move(1, 1);
            return x;
        }, x -> x.join(0));
        Due.refuses("on two machines", Due.NOT_NOW, ShardsTest::onTwoMachines, x -> x.join(0));
    }

    private static void promise10OfTwoMachines() {
        ShardHarbour x = onTwoMachines();
        x.move(1, 1);
        Due.refuses("moving to where the other one is", Due.NOT_NOW, () -> {
            ShardHarbour y = onTwoMachines();
            y.move(1, 1);
            return y;
        }, y -> y.join(0));
        x.pass(1);
        Due.is("on one again", x.join(0), 1);
        Due.is("the other one", x.shard(0, 2), 1);
        ShardHarbour z = splitAndMoving(true);
        z.callOff(0);
        Due.is("one that was called off", z.join(0), 1);
        ShardHarbour w = withMachines();
        w.split(300);
        w.split(600);
        w.write(600, 0, 100);
        w.move(2, 1);
        Due.is("a third one moves", w.join(0), 2);
        Due.is("it moves on, with a number less", w.shard(1, 3), 1);
        w.pass(2);
        Due.is("and cuts over", w.shard(1, 2), 1);
    }

    private static void promise10AndSplitAgain() {
        ShardHarbour x = withShards(4);
        x.write(10, 0, 1);
        x.write(30, 0, 2);
        x.write(900, 0, 4);
        Due.is("join of the first two", x.join(0), 3);
        Due.is("split of the last one", x.split(500), 3);
        int[] firsts = {0, 20, 30, 500};
        int[] lasts = {19, 29, 499, 999};
        int[] bytes = {1, 0, 2, 4};
        for (int shard = 0; shard < 4; shard++) {
            Due.is("first key of " + shard, x.shard(shard, 0), firsts[shard]);
            Due.is("last key of " + shard, x.shard(shard, 1), lasts[shard]);
            Due.is("bytes of " + shard, x.shard(shard, 4), bytes[shard]);
        }
        x.read(900);
        Due.is("heat of the last one alone", x.shard(2, 6) * 10 + x.shard(3, 6), 12);
    }

    private static ShardHarbour onTwoMachines() {
        ShardHarbour x = splitAndMoving(true);
        x.pass(1);
        return x;
    }

    private static void promise15Shards() {
        ShardHarbour x = new ShardHarbour();
        Due.is("shards", x.shards(), 1);
        x.split(1);
        x.split(2);
        Due.is("shards", x.shards(), 3);
        x.join(0);
        Due.is("shards", x.shards(), 2);
        x.join(0);
        Due.is("the least", x.shards(), 1);
        Due.is("the most", withShards(16).shards(), 16);
        Due.is("no more by a move", onTwoMachines().shards(), 2);
    }

    private static void promise16ShardOf() {
        ShardHarbour x = withShards(16);
        for (int number = 1; number <= 15; number++) {
            Due.is("the last key ahead of " + number, x.shardOf(number * 10 - 1), number - 1);
            Due.is("the first key of " + number, x.shardOf(number * 10), number);
        }
        Due.is("shardOf(0)", x.shardOf(0), 0);
        Due.is("shardOf(999)", x.shardOf(999), 15);
        x.join(0);
        Due.is("behind a join", x.shardOf(10) * 10 + x.shardOf(20), 1);
        Due.is("without machines", new ShardHarbour().shardOf(999), 0);
        Due.range("shardOf of 1", 0, 999, Due.NO_SUCH, ShardHarbour::new, (y, key) -> y.shardOf(key));
        Due.range("shardOf of 16", 0, 999, Due.NO_SUCH, () -> withShards(16), (y, key) -> y.shardOf(key));
    }

    private static void promise17Shard() {
        ShardHarbour x = new ShardHarbour();
        x.split(500);
        Due.is("no machine", x.shard(1, 2), ShardHarbour.NONE);
        x.machine(1000);
        x.machine(1000);
        x.write(500, 0, 30);
        x.write(501, 0, 30);
        x.read(502);
        Due.is("on 0", x.shard(1, 2), 0);
        Due.is("does not move", x.shard(1, 3), ShardHarbour.NONE);
        x.move(1, 1);
        Due.is("moves", x.shard(1, 3), 1);
        Due.is("nothing was copied", x.shard(1, 5), 0);
        x.pass(1);
        int[] want = {500, 999, 0, 1, 60, 30, 1};
        for (int what = 0; what <= 6; what++) {
            Due.is("shard(1, " + what + ")", x.shard(1, what), want[what]);
        }
        x.pass(1);
        int[] behind = {500, 999, 1, ShardHarbour.NONE, 60, 0, 0};
        for (int what = 0; what <= 6; what++) {
            Due.is("shard(1, " + what + ") behind the move", x.shard(1, what), behind[what]);
        }
        Due.is("the other one", x.shard(0, 4) + x.shard(0, 6), 0);
    }

    private static void promise17ManyShards() {
        ShardHarbour x = withShards(16);
        x.write(150, 0, 100);
        x.write(999, 0, 100);
        x.move(15, 1);
        x.pass(2);
        int[] want = {150, 999, 0, 1, 200, 100, 0};
        for (int what = 0; what <= 6; what++) {
            Due.is("shard(15, " + what + ")", x.shard(15, what), want[what]);
        }
        Due.is("the first one", x.shard(0, 1), 9);
        Due.is("the one ahead does not move", x.shard(14, 3), ShardHarbour.NONE);
    }

    private static void promise17Ranges() {
        for (int what = 0; what <= 6; what++) {
            int asked = what;
            Due.range("shard of 1", 0, 0, Due.NO_SUCH, ShardHarbour::new, (x, i) -> x.shard(i, asked));
            Due.range("shard of 2", 0, 1, Due.NO_SUCH, () -> splitAndMoving(true),
                (x, i) -> x.shard(i, asked));
            Due.range("shard of 16", 0, 15, Due.NO_SUCH, () -> withShards(16), (x, i) -> x.shard(i, asked));
            Due.refuses("one that was joined", Due.NO_SUCH, () -> {
                ShardHarbour x = withShards(3);
                x.join(0);
                return x;
            }, x -> x.shard(2, asked));
        }
        Due.range("what of the only one", 0, 6, Due.OUT_OF_RANGE, ShardHarbour::new,
            (x, what) -> x.shard(0, what));
        Due.range("what of the last one", 0, 6, Due.OUT_OF_RANGE, () -> withShards(16),
            (x, what) -> x.shard(15, what));
        for (int what : new int[] {-1, 7}) {
            Due.refuses("no such shard, what " + what, Due.NO_SUCH, ShardHarbour::new, x -> x.shard(1, what));
            Due.refuses("no such shard, what " + what, Due.NO_SUCH, ShardHarbour::new, x -> x.shard(-1, what));
        }
    }
}
