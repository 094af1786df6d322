/** Promises 5 (limit), 13 (pass) and 14 (hour), and what heat does. */
public final class HoursTest {
    public static void main(String[] args) {
        promise5Limit();
        promise5WrongInputs();
        promise13Pass();
        promise13WrongInputs();
        promise13Bills();
        promise13HeatIsHalved();
        promise13HeatDraws();
        promise13LowestOfSeveral();
        promise13OneMovesAwayAlready();
        promise13OnlyMachinesUp();
        promise13OrderOfAnHour();
        promise14Hour();
        Due.end();
    }

    private static ShardHarbour withMachines(int count) {
        ShardHarbour x = new ShardHarbour();
        for (int i = 0; i < count; i++) {
            x.machine(1000);
        }
        return x;
    }

    private static void readTimes(ShardHarbour x, int key, int times) {
        for (int i = 0; i < times; i++) {
            x.read(key);
        }
    }

    private static void promise5Limit() {
        ShardHarbour x = new ShardHarbour();
        Due.is("limit(1000)", x.limit(1000), 0);
        Due.is("limit(0)", x.limit(0), 1000);
        Due.is("limit(1)", x.limit(1), 0);
        Due.is("limit(1)", x.limit(1), 1);
        Due.is("at the limit it moves", targetBehindHeat(4, 4), 1);
        Due.is("below it, not", targetBehindHeat(5, 4), ShardHarbour.NONE);
        Due.is("without a limit, not", targetBehindHeat(0, 4), ShardHarbour.NONE);
        Due.is("no heat is no reason", targetBehindHeat(1, 0), ShardHarbour.NONE);
    }

    private static int targetBehindHeat(int limit, int heat) {
        ShardHarbour x = withMachines(2);
        x.limit(limit);
        readTimes(x, 0, heat);
        x.pass(1);
        return x.shard(0, 3);
    }

    private static void promise5WrongInputs() {
        for (int heat : new int[] {-1, 1001, Integer.MIN_VALUE, Integer.MAX_VALUE}) {
            Due.refuses("limit(" + heat + ")", Due.OUT_OF_RANGE, ShardHarbour::new, x -> x.limit(heat));
        }
        ShardHarbour x = new ShardHarbour();
        x.limit(77);
        try {
            x.limit(1001);
        } catch (IllegalArgumentException refused) {
            Due.is("the limit stays", x.limit(0), 77);
        }
    }

    private static void promise13Pass() {
        ShardHarbour x = new ShardHarbour();
        Due.is("pass(1)", x.pass(1), 1);
        Due.is("pass(200)", x.pass(200), 201);
    }

    private static void promise13WrongInputs() {
        for (int hours : new int[] {0, -1, 201, Integer.MIN_VALUE, Integer.MAX_VALUE}) {
            Due.refuses("pass(" + hours + ")", Due.OUT_OF_RANGE, ShardHarbour::new, x -> x.pass(hours));
            Due.refuses("pass(" + hours + ") at the end", Due.OUT_OF_RANGE, () -> atHour(2000),
                x -> x.pass(hours));
        }
        Due.refuses("pass(1) at 2000", Due.NOT_NOW, () -> atHour(2000), x -> x.pass(1));
        Due.refuses("pass(101) at 1900", Due.NOT_NOW, () -> atHour(1900), x -> x.pass(101));
        Due.allows("pass(100) at 1900", () -> atHour(1900), x -> Due.is("pass(100)", x.pass(100), 2000));
    }

    private static ShardHarbour atHour(int hour) {
        ShardHarbour x = withMachines(1);
        x.write(0, 0, 100);
        while (x.hour() < hour) {
            x.pass(Math.min(200, hour - x.hour()));
        }
        return x;
    }

    private static void promise13Bills() {
        ShardHarbour x = atHour(2000);
        Due.is("100 bytes in 2000 hours", x.tenant(0, 2), 200000);
        ShardHarbour y = withMachines(2);
        y.write(0, 2, 40);
        y.write(1, 2, 100);
        y.move(0, 1);
        y.pass(1);
        Due.is("a copy is not billed", y.tenant(2, 2), 140);
    }

    private static void promise13HeatIsHalved() {
        ShardHarbour x = withMachines(1);
        readTimes(x, 0, 7);
        x.split(500);
        readTimes(x, 500, 1);
        x.pass(1);
        Due.is("half of 3", x.shard(0, 6), 1);
        Due.is("half of 5", x.shard(1, 6), 2);
        Due.is("of the machine", x.machineOf(0, 2), 3);
        x.pass(2);
        Due.is("nothing is left", x.machineOf(0, 2), 0);
    }

    private static void promise13HeatDraws() {
        ShardHarbour x = withMachines(3);
        x.split(100);
        x.split(200);
        x.move(2, 2);
        x.pass(1);
        readTimes(x, 0, 4);
        readTimes(x, 100, 5);
        readTimes(x, 200, 3);
        x.limit(9);
        x.pass(1);
        Due.is("the hottest shard", x.shard(1, 3), 1);
        Due.is("not the others", x.shard(0, 3) + x.shard(2, 3), -2);
        Due.is("it copies from the next hour on", x.shard(1, 2), 0);
        x.pass(1);
        Due.is("it moved", x.shard(1, 2), 1);
        Due.is("now the difference is too small", x.shard(0, 3), ShardHarbour.NONE);
        Due.is("moves", x.moves(true), 2);
    }

    private static void promise13LowestOfSeveral() {
        ShardHarbour x = withMachines(6);
        x.split(100);
        x.split(200);
        x.split(300);
        x.move(2, 4);
        x.move(3, 4);
        x.pass(1);
        for (int key = 0; key <= 300; key += 100) {
            readTimes(x, key, 4);
        }
        x.limit(8);
        x.pass(1);
        Due.is("of the lowest machine the lowest shard, to the lowest one", x.shard(0, 3), 1);
        Due.is("of the same machine no other one", x.shard(1, 3), ShardHarbour.NONE);
        Due.is("of the other machine none", x.shard(2, 3) + x.shard(3, 3), -2);
    }

    private static void promise13OneMovesAwayAlready() {
        ShardHarbour x = withMachines(3);
        x.split(100);
        x.write(0, 0, 100);
        x.write(100, 0, 100);
        readTimes(x, 100, 20);
        x.move(0, 2);
        x.limit(1);
        x.pass(1);
        Due.is("another one of its shards moves away", x.shard(1, 3), ShardHarbour.NONE);
        x.callOff(0);
        x.pass(1);
        Due.is("none moves away", x.shard(1, 3), 1);
        ShardHarbour y = withMachines(3);
        y.split(100);
        y.move(1, 1);
        y.pass(1);
        y.write(100, 0, 100);
        y.move(1, 0);
        readTimes(y, 0, 20);
        y.limit(1);
        y.pass(1);
        Due.is("one that moves there does not hinder", y.shard(0, 3), 2);
    }

    private static void promise13OnlyMachinesUp() {
        ShardHarbour x = withMachines(4);
        readTimes(x, 0, 8);
        x.limit(1);
        x.down(1, true);
        x.down(3, true);
        x.pass(1);
        Due.is("the coldest one that is up", x.shard(0, 3), 2);
        ShardHarbour y = withMachines(2);
        readTimes(y, 0, 8);
        y.limit(1);
        y.down(0, true);
        y.pass(1);
        Due.is("the hottest one is down", y.shard(0, 3), ShardHarbour.NONE);
        y.down(1, true);
        y.pass(1);
        Due.is("none is up", y.shard(0, 3), ShardHarbour.NONE);
        y.down(0, false);
        y.pass(1);
        Due.is("only one is up", y.shard(0, 3), ShardHarbour.NONE);
        ShardHarbour z = new ShardHarbour();
        z.limit(1);
        z.pass(1);
        Due.is("no machines", z.shard(0, 3), ShardHarbour.NONE);
    }

    /** Copies come ahead of the draw, and the draw ahead of the halving. */
    private static void promise13OrderOfAnHour() {
        ShardHarbour x = withMachines(3);
        x.split(100);
        readTimes(x, 0, 6);
        x.move(0, 1);
        x.limit(6);
        x.pass(1);
        Due.is("it cut over, and is drawn on in the same hour", x.shard(0, 2) * 10 + x.shard(0, 3), 10);
        Due.is("the halving came behind", x.shard(0, 6), 3);
        x.pass(1);
        Due.is("it cut over again", x.shard(0, 2), 0);
        Due.is("3 is below the limit", x.shard(0, 3), ShardHarbour.NONE);
    }

    private static void promise14Hour() {
        ShardHarbour x = new ShardHarbour();
        Due.is("hour", x.hour(), 0);
        x.pass(17);
        Due.is("hour", x.hour(), 17);
        Due.is("hour at the end", atHour(2000).hour(), 2000);
    }
}
