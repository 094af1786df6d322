/** Promises 5 (limit), 13 (pass) and 14 (hour), and what heat does. */
public final class HoursTest {
    public static void main(String[] args) {
        promise5Limit();
        promise5Most();
        promise5Ranges();
        promise13Pass();
        promise13Ranges();
        promise13LastHour();
        promise13Bills();
        promise13Heat();
        promise13HeatIsHalved();
        promise13HeatDraws();
        promise13HeatOfMachines();
        promise13LowestOfSeveral();
        promise13SixteenShards();
        promise13OneMovesAwayAlready();
        promise13OnlyMachinesUp();
        promise13DrawnMove();
        promise13OrderOfAnHour();
        promise14Hour();
        Due.end();
    }

    private static ShardHarbour withMachines(int count) {
        ShardHarbour x = new ShardHarbour();
        for (int i = 0; i < count; i++) {
            x.machine(1000);
        }
        return x;
    }

    private static void readTimes(ShardHarbour x, int key, int times) {
        for (int i = 0; i < times; i++) {
            x.read(key);
        }
    }

    private static void promise5Limit() {
        ShardHarbour x = new ShardHarbour();
        Due.is("limit(1000)", x.limit(1000), 0);
        Due.is("limit(0)", x.limit(0), 1000);
        Due.is("limit(1)", x.limit(1), 0);
        Due.is("limit(1)", x.limit(1), 1);
        Due.is("at the limit it moves", targetBehindHeat(4, 4), 1);
        Due.is("above it, too", targetBehindHeat(4, 5), 1);
        Due.is("below it, not", targetBehindHeat(5, 4), ShardHarbour.NONE);
        Due.is("at the least limit it moves", targetBehindHeat(1, 1), 1);
        Due.is("without a limit, not", targetBehindHeat(0, 4), ShardHarbour.NONE);
        Due.is("no heat is no reason", targetBehindHeat(1, 0), ShardHarbour.NONE);
        Due.is("nor without a limit", targetBehindHeat(0, 0), ShardHarbour.NONE);
        ShardHarbour y = withMachines(2);
        y.limit(1);
        y.limit(0);
        y.read(0);
        y.pass(1);
        Due.is("a limit can be taken away", y.shard(0, 3), ShardHarbour.NONE);
    }

    private static int targetBehindHeat(int limit, int heat) {
        ShardHarbour x = withMachines(2);
        x.limit(limit);
        readTimes(x, 0, heat);
        x.pass(1);
        return x.shard(0, 3);
    }

    /** A heat of 1000 is out of reach of 512 calls; the largest that one hour can see is below that. */
    private static void promise5Most() {
        Due.is("no heat of 500 calls is at the limit 1000", targetBehindHeat(1000, 500), ShardHarbour.NONE);
        Due.is("500 are at the limit 500", targetBehindHeat(500, 500), 1);
        Due.is("499 are not", targetBehindHeat(500, 499), ShardHarbour.NONE);
    }

    private static ShardHarbour withLimit(int heat) {
        ShardHarbour x = withMachines(2);
        x.limit(heat);
        readTimes(x, 0, 8);
        return x;
    }

    private static void promise5Ranges() {
        for (int before : new int[] {0, 2, 1000}) {
            Due.range("limit behind " + before, 0, 1000, Due.OUT_OF_RANGE, () -> withLimit(before),
                (x, heat) -> x.limit(heat));
        }
        Due.range("limit without machines", 0, 1000, Due.OUT_OF_RANGE, ShardHarbour::new,
            (x, heat) -> x.limit(heat));
    }

    private static void promise13Pass() {
        ShardHarbour x = new ShardHarbour();
        Due.is("pass(1)", x.pass(1), 1);
        Due.is("pass(200)", x.pass(200), 201);
    }

    private static ShardHarbour atHour(int hour) {
        ShardHarbour x = withMachines(1);
        x.write(0, 0, 100);
        while (x.hour() < hour) {
            x.pass(Math.min(200, hour - x.hour()));
        }
        return x;
    }

    private static void promise13Ranges() {
        Due.range("pass", 1, 200, Due.OUT_OF_RANGE, ShardHarbour::new, (x, hours) -> x.pass(hours));
        Due.range("pass to the last hour", 1, 200, Due.OUT_OF_RANGE, () -> atHour(1800),
            (x, hours) -> x.pass(hours));
        for (int hours : new int[] {0, -1, 201, Integer.MIN_VALUE, Integer.MAX_VALUE}) {
            Due.refuses("pass(" + hours + ") at the end", Due.OUT_OF_RANGE, () -> atHour(2000),
                x -> x.pass(hours));
        }
    }

    private static void promise13LastHour() {
        Due.is("pass(200) at 1800", atHour(1800).pass(200), 2000);
        Due.is("pass(100) at 1900", atHour(1900).pass(100), 2000);
        Due.is("pass(1) at 1999", atHour(1999).pass(1), 2000);
        Due.refuses("pass(200) at 1801", Due.NOT_NOW, () -> atHour(1801), x -> x.pass(200));
        Due.refuses("pass(101) at 1900", Due.NOT_NOW, () -> atHour(1900), x -> x.pass(101));
        Due.refuses("pass(2) at 1999", Due.NOT_NOW, () -> atHour(1999), x -> x.pass(2));
        Due.refuses("pass(1) at 2000", Due.NOT_NOW, () -> atHour(2000), x -> x.pass(1));
        Due.refuses("pass(200) at 2000", Due.NOT_NOW, () -> atHour(2000), x -> x.pass(200));
        ShardHarbour x = atHour(2000);
        Due.is("at the end it is still written", x.write(1, 0, 5), 105);
    }

    private static void promise13Bills() {
        ShardHarbour x = atHour(2000);
        Due.is("100 bytes in 2000 hours", x.tenant(0, 2), 200000);
        ShardHarbour y = withMachines(2);
        y.write(0, 2, 40);
        y.write(1, 2, 100);
        y.move(0, 1);
        y.pass(1);
        Due.is("a copy is not billed", y.tenant(2, 2), 140);
        y.down(0, true);
        y.pass(1);
        Due.is("what is on one that is down is", y.tenant(2, 2), 280);
        Due.is("no other tenant is billed", y.tenant(1, 2) + y.tenant(3, 2), 0);
    }

    private static void promise13Heat() {
        ShardHarbour x = withMachines(2);
        x.split(500);
        x.write(499, 0, 1);
        x.write(500, 0, 1);
        x.read(500);
        x.read(501);
        x.take(500);
        Due.is("a write", x.shard(0, 6), 1);
        Due.is("a write, two reads, one of nothing, and a take", x.shard(1, 6), 4);
        Due.is("of the machine", x.machineOf(0, 2), 5);
        x.move(1, 1);
        x.callOff(1);
        x.quota(0, 5);
        Due.is("no other call is heat", x.machineOf(0, 2), 5);
    }

    private static void promise13HeatIsHalved() {
        ShardHarbour x = withMachines(1);
        readTimes(x, 0, 7);
        x.split(500);
        readTimes(x, 500, 1);
        x.pass(1);
        Due.is("half of 3", x.shard(0, 6), 1);
        Due.is("half of 5", x.shard(1, 6), 2);
        Due.is("of the machine", x.machineOf(0, 2), 3);
        x.pass(1);
        Due.is("half of 1 and half of 2", x.shard(0, 6) * 10 + x.shard(1, 6), 1);
        x.pass(1);
        Due.is("nothing is left", x.machineOf(0, 2), 0);
        x.pass(1);
        Due.is("half of nothing", x.machineOf(0, 2), 0);
        readTimes(x, 0, 40);
        x.pass(3);
        Due.is("40, 20, 10, 5", x.shard(0, 6), 5);
        x.down(0, true);
        x.pass(1);
        Due.is("also on one that is down", x.shard(0, 6), 2);
    }

    private static void promise13HeatDraws() {
        ShardHarbour x = withMachines(3);
        x.split(100);
        x.split(200);
        x.move(2, 2);
        x.pass(1);
        readTimes(x, 0, 4);
        readTimes(x, 100, 5);
        readTimes(x, 200, 3);
        x.limit(9);
        x.pass(1);
        Due.is("the hottest shard", x.shard(1, 3), 1);
        Due.is("not the others", x.shard(0, 3) + x.shard(2, 3), -2);
        Due.is("it copies from the next hour on", x.shard(1, 2), 0);
        x.pass(1);
        Due.is("it moved", x.shard(1, 2), 1);
        Due.is("now the difference is too small", x.shard(0, 3), ShardHarbour.NONE);
        Due.is("moves", x.moves(true), 2);
    }

    /** The shards 0 and 1 are on 0, the shard 2 on 1, and the shard 3 on 2, with so much heat. */
    private static ShardHarbour withHeat(int first, int second, int third, int fourth) {
        ShardHarbour x = withMachines(3);
        x.split(100);
        x.split(200);
        x.split(300);
        x.move(2, 1);
        x.move(3, 2);
        x.pass(1);
        readTimes(x, 0, first);
        readTimes(x, 100, second);
        readTimes(x, 200, third);
        readTimes(x, 300, fourth);
        return x;
    }

    private static int targetOf(ShardHarbour x, int limit, int shard) {
        x.limit(limit);
        x.pass(1);
        return x.shard(shard, 3);
    }

    private static void promise13HeatOfMachines() {
        Due.is("3 and 3 are hotter than 5", targetOf(withHeat(3, 3, 5, 1), 5, 0), 2);
        Due.is("but not by 6 than 1", targetOf(withHeat(3, 3, 5, 1), 6, 0), ShardHarbour.NONE);
        Due.is("2 and 2 are not hotter than 5", targetOf(withHeat(2, 2, 5, 1), 4, 0), ShardHarbour.NONE);
        Due.is("5 is", targetOf(withHeat(2, 2, 5, 1), 4, 2), 2);
        Due.is("the hotter one of both", targetOf(withHeat(2, 4, 1, 3), 5, 1), 1);
        Due.is("all as hot", targetOf(withHeat(1, 1, 2, 2), 1, 0), ShardHarbour.NONE);
    }

    private static void promise13LowestOfSeveral() {
        ShardHarbour x = withMachines(6);
        x.split(100);
        x.split(200);
        x.split(300);
        x.move(2, 4);
        x.move(3, 4);
        x.pass(1);
        for (int key = 0; key <= 300; key += 100) {
            readTimes(x, key, 4);
        }
        x.limit(8);
        x.pass(1);
        Due.is("of the lowest machine the lowest shard, to the lowest one", x.shard(0, 3), 1);
        Due.is("of the same machine no other one", x.shard(1, 3), ShardHarbour.NONE);
        Due.is("of the other machine none", x.shard(2, 3) + x.shard(3, 3), -2);
        Due.is("the last one as hot as the one ahead", targetOf(withHeat(0, 0, 4, 4), 4, 2), 0);
        Due.is("the last one the coldest", targetOf(withHeat(2, 0, 1, 0), 2, 0), 2);
    }

    private static void promise13SixteenShards() {
        ShardHarbour x = withMachines(2);
        for (int key = 1; key <= 15; key++) {
            x.split(key);
        }
        for (int key = 0; key <= 15; key++) {
            x.read(key);
        }
        x.read(999);
        Due.is("the last of 16 is the hottest one", targetOf(x, 17, 15), 1);
        Due.is("its heat is halved, too", x.shard(15, 6), 1);
        Due.is("what the others had is halved to nothing", x.machineOf(0, 2), 1);
        x.pass(1);
        Due.is("it moved", x.shard(15, 2), 1);
    }

    private static void promise13OneMovesAwayAlready() {
        ShardHarbour x = withMachines(3);
        x.split(100);
        x.write(0, 0, 100);
        x.write(100, 0, 100);
        readTimes(x, 100, 20);
        x.move(0, 2);
        x.limit(1);
        x.pass(1);
        Due.is("another one of its shards moves away", x.shard(1, 3), ShardHarbour.NONE);
        x.callOff(0);
        x.pass(1);
        Due.is("none moves away", x.shard(1, 3), 1);
        ShardHarbour y = withMachines(3);
        y.split(100);
        y.move(1, 1);
        y.pass(1);
        y.write(100, 0, 100);
        y.move(1, 0);
        readTimes(y, 0, 20);
        y.limit(1);
        y.pass(1);
        Due.is("one that moves there does not hinder", y.shard(0, 3), 2);
        ShardHarbour z = withMachines(2);
        z.write(0, 0, 100);
        readTimes(z, 0, 9);
        z.move(0, 1);
        z.limit(1);
        z.pass(1);
        Due.is("it moves on itself", z.shard(0, 3), 1);
        z.pass(1);
        Due.is("what it had to copy was not begun anew", z.moves(true), 1);
    }

    private static void promise13OnlyMachinesUp() {
        ShardHarbour x = withMachines(4);
        readTimes(x, 0, 8);
        x.limit(1);
        x.down(1, true);
        x.down(3, true);
        x.pass(1);
        Due.is("the coldest one that is up", x.shard(0, 3), 2);
        ShardHarbour y = withMachines(2);
        readTimes(y, 0, 8);
        y.limit(1);
        y.down(0, true);
        y.pass(1);
        Due.is("the hottest one is down", y.shard(0, 3), ShardHarbour.NONE);
        y.down(1, true);
        y.pass(1);
        Due.is("none is up", y.shard(0, 3), ShardHarbour.NONE);
        y.down(0, false);
        y.pass(1);
        Due.is("only one is up", y.shard(0, 3), ShardHarbour.NONE);
        ShardHarbour v = withHeat(9, 0, 4, 1);
        v.down(0, true);
        Due.is("the hottest one of those that are up", targetOf(v, 3, 2), 2);
        ShardHarbour z = new ShardHarbour();
        z.limit(1);
        z.pass(1);
        Due.is("no machines", z.shard(0, 3), ShardHarbour.NONE);
    }

    /** A move that heat drew is one as any other. */
    private static void promise13DrawnMove() {
        ShardHarbour x = withLimit(1);
        x.write(0, 0, 60);
        x.pass(1);
        Due.is("it moves", x.shard(0, 3), 1);
        x.pass(1);
        Due.is("50 are not enough", x.shard(0, 2), 0);
        Due.is("it can be called off", x.callOff(0), 0);
        Due.is("it failed", x.moves(false), 1);
        x.pass(1);
        Due.is("heat draws it again", x.shard(0, 3), 1);
        x.down(1, true);
        Due.is("it failed again", x.moves(false), 2);
        ShardHarbour y = new ShardHarbour();
        y.machine(1000);
        y.machine(100);
        y.write(0, 0, 100);
        y.write(1, 0, 100);
        y.limit(2);
        y.pass(1);
        Due.is("also to one without the room", y.shard(0, 3), 1);
        y.pass(4);
        Due.is("there it fails", y.moves(false), 1);
    }

    /** Copies come ahead of the draw, and the draw ahead of the halving. */
    private static void promise13OrderOfAnHour() {
        ShardHarbour x = withMachines(3);
        x.split(100);
        readTimes(x, 0, 6);
        x.move(0, 1);
        x.limit(6);
        x.pass(1);
        Due.is("it cut over, and is drawn on in the same hour", x.shard(0, 2) * 10 + x.shard(0, 3), 10);
        Due.is("the halving came behind", x.shard(0, 6), 3);
        x.pass(1);
        Due.is("it cut over again", x.shard(0, 2), 0);
        Due.is("3 is below the limit", x.shard(0, 3), ShardHarbour.NONE);
    }

    private static void promise14Hour() {
        ShardHarbour x = new ShardHarbour();
        Due.is("hour", x.hour(), 0);
        x.pass(17);
        Due.is("hour", x.hour(), 17);
        Due.is("hour at the end", atHour(2000).hour(), 2000);
    }
}
