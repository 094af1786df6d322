/** Promises 11 (move), 12 (callOff) and 22 (moves), and how keys are copied. */
public final class MovesTest {
    public static void main(String[] args) {
        promise11Move();
        promise11FiftyAnHour();
        promise11WhatIsLeftAddsUp();
        promise11NothingNeedsNone();
        promise11OfOneKey();
        promise11RoomOfTheOther();
        promise11WaitsAheadOfFailing();
        promise11CutOverAtOnce();
        promise11Ranges();
        promise11Refusals();
        promise12CallOff();
        promise12Ranges();
        promise12Refusals();
        promise22Moves();
        promise22AllOfOneHour();
        Due.end();
    }

    private static ShardHarbour withMachines() {
        ShardHarbour x = new ShardHarbour();
        x.machine(1000);
        x.machine(1000);
        x.machine(150);
        return x;
    }

    private static ShardHarbour withKeys() {
        ShardHarbour x = withMachines();
        x.write(0, 0, 30);
        x.write(5, 1, 30);
        x.write(999, 0, 100);
        return x;
    }

    private static void promise11Move() {
        ShardHarbour x = withKeys();
        Due.is("move(0, 1)", x.move(0, 1), 160);
        Due.is("the target", x.shard(0, 3), 1);
        Due.is("it is where it was", x.shard(0, 2), 0);
        Due.is("nothing is copied at once", x.shard(0, 5), 0);
        x.pass(1);
        Due.is("30 of 50", x.shard(0, 5), 30);
        x.pass(1);
        Due.is("30 of 20 and 50", x.shard(0, 5), 60);
        x.pass(1);
        Due.is("90 are not enough", x.shard(0, 5), 60);
        Due.is("still where it was", x.shard(0, 2), 0);
        x.pass(1);
        Due.is("140 are", x.shard(0, 2), 1);
        Due.is("it does not move", x.shard(0, 3), ShardHarbour.NONE);
        Due.is("0 holds nothing", x.machineOf(0, 0), 0);
        Due.is("1 holds all", x.machineOf(1, 0), 160);
        Due.is("and back", x.move(0, 0), 160);
        x.pass(3);
        Due.is("nothing is left of the move before", x.shard(0, 5), 60);
        x.pass(1);
        Due.is("back", x.shard(0, 2), 0);
    }

    /** The hours until a shard of these bytes, at one key after the other, cut over. */
    private static int hoursFor(int... bytes) {
        ShardHarbour x = withMachines();
        for (int i = 0; i < bytes.length; i++) {
            x.write(500 + i, 0, bytes[i]);
        }
        x.move(0, 1);
        while (x.shard(0, 2) == 0 && x.hour() < 100) {
            x.pass(1);
        }
        return x.hour();
    }

    private static void promise11FiftyAnHour() {
        Due.is("nothing", hoursFor(), 1);
        Due.is("1 byte", hoursFor(1), 1);
        Due.is("50 bytes", hoursFor(50), 1);
        Due.is("51 bytes", hoursFor(51), 2);
        Due.is("100 bytes", hoursFor(100), 2);
        Due.is("50 bytes at two keys", hoursFor(25, 25), 1);
        Due.is("51 bytes at two keys", hoursFor(25, 26), 2);
        Due.is("100 bytes at two keys", hoursFor(1, 99), 2);
        Due.is("101 bytes at two keys", hoursFor(2, 99), 3);
        Due.is("150 bytes", hoursFor(100, 50), 3);
        Due.is("151 bytes", hoursFor(100, 50, 1), 4);
        Due.is("1000 bytes", hoursFor(100, 100, 100, 100, 100, 100, 100, 100, 100, 100), 20);
    }

    private static void promise11WhatIsLeftAddsUp() {
        ShardHarbour x = withMachines();
        x.write(10, 0, 100);
        x.write(11, 0, 50);
        x.write(12, 0, 1);
        x.move(0, 1);
        x.pass(1);
        Due.is("50 are not enough for 100", x.shard(0, 5), 0);
        x.pass(1);
        Due.is("100 of 100", x.shard(0, 5), 100);
        x.pass(1);
        Due.is("50 of 50", x.shard(0, 5), 150);
        x.pass(1);
        Due.is("1 of 50", x.moves(true), 1);
        ShardHarbour y = withMachines();
        y.write(10, 0, 10);
        y.write(11, 0, 41);
        y.move(0, 1);
        y.pass(1);
        y.write(10, 0, 100);
        y.take(10);
        Due.is("what is written or taken away leaves the same", y.shard(0, 5), 0);
        y.write(11, 0, 91);
        y.pass(1);
        Due.is("90 are not enough for 91", y.shard(0, 2), 0);
        y.write(11, 0, 100);
        y.pass(1);
        Due.is("140 are for 100", y.shard(0, 2), 1);
    }

    private static void promise11NothingNeedsNone() {
        ShardHarbour x = withMachines();
        Due.is("move of nothing", x.move(0, 2), 0);
        Due.is("it copies only in an hour", x.shard(0, 2), 0);
        x.pass(1);
        Due.is("all in one hour", x.shard(0, 2), 2);
        ShardHarbour z = withMachines();
        z.write(500, 0, 51);
        z.write(501, 0, 1);
        z.move(0, 1);
        z.pass(1);
        Due.is("51 are too much, and the others wait", z.shard(0, 5), 0);
        z.take(500);
        Due.is("what waited was taken away", z.shard(0, 2), 0);
        z.pass(1);
        Due.is("it needs none", z.shard(0, 2), 1);
        ShardHarbour y = withMachines();
        y.write(500, 0, 50);
        y.write(502, 0, 1);
        y.move(0, 1);
        y.pass(1);
        y.write(501, 1, 7);
        Due.is("nothing at 501 was copied when none was left", y.shard(0, 5), 57);
    }

    /** The first, the last and a shard between, each of one key. */
    private static void promise11OfOneKey() {
        ShardHarbour x = withMachines();
        x.split(1);
        x.split(500);
        x.split(501);
        x.split(999);
        x.write(0, 0, 50);
        x.write(500, 0, 51);
        x.write(999, 0, 50);
        Due.is("of the first key", x.move(0, 1), 50);
        Due.is("of a key between", x.move(2, 1), 51);
        Due.is("of the last key", x.move(4, 1), 50);
        x.pass(1);
        Due.is("the first and the last cut over", x.shard(0, 2) * 10 + x.shard(4, 2), 11);
        Due.is("that between waits", x.shard(2, 2), 0);
        Due.is("two of three", x.machineOf(1, 0), 100);
        x.pass(1);
        Due.is("it cut over", x.shard(2, 2), 1);
        Due.is("their neighbours stay", x.shard(1, 2) + x.shard(3, 2), 0);
    }

    private static void promise11RoomOfTheOther() {
        ShardHarbour x = withKeys();
        Due.is("a move to where there is no room begins", x.move(0, 2), 160);
        x.pass(3);
        Due.is("60 of 160", x.machineOf(2, 0), 60);
        x.pass(1);
        Due.is("160 do not fit", x.moves(false), 1);
        Due.is("it stays", x.shard(0, 2), 0);
        Due.is("it does not move", x.shard(0, 3), ShardHarbour.NONE);
        Due.is("nothing was copied", x.shard(0, 5), 0);
        Due.is("nothing is there", x.machineOf(2, 0), 0);
        Due.is("all is where it was", x.machineOf(0, 0), 160);
        x.write(0, 0, 21);
        x.move(0, 2);
        x.pass(4);
        Due.is("151 do not fit", x.moves(false), 2);
        x.write(0, 0, 20);
        x.move(0, 2);
        x.pass(4);
        Due.is("150 fit", x.shard(0, 2), 2);
        Due.is("all of the room", x.machineOf(2, 0), 150);
    }

    /** A key that does not fit waits as long as there is not enough for its bytes. */
    private static void promise11WaitsAheadOfFailing() {
        ShardHarbour x = withMachines();
        x.write(0, 0, 50);
        x.write(1, 0, 10);
        x.write(2, 0, 100);
        x.move(0, 2);
        x.pass(3);
        Due.is("90 are not enough for 100", x.shard(0, 5), 60);
        Due.is("it moves still", x.shard(0, 3), 2);
        x.write(2, 0, 90);
        x.pass(1);
        Due.is("90 fit", x.shard(0, 2), 2);
        ShardHarbour y = withMachines();
        y.split(500);
        y.write(500, 1, 100);
        y.move(1, 2);
        y.pass(2);
        y.write(501, 1, 50);
        y.move(0, 2);
        y.pass(1);
        Due.is("nothing fits where all is full", y.shard(0, 2), 2);
    }

    /** What the shard 0 leaves behind when it cuts over is room for the shard 1 in the same hour. */
    private static void promise11CutOverAtOnce() {
        ShardHarbour x = new ShardHarbour();
        x.machine(100);
        x.machine(100);
        x.split(500);
        x.write(0, 0, 50);
        x.move(1, 1);
        x.pass(1);
        x.write(500, 1, 50);
        x.write(501, 1, 1);
        x.move(0, 1);
        x.move(1, 0);
        Due.is("before", x.machineOf(0, 0) + x.machineOf(1, 0), 101);
        x.take(501);
        x.write(1, 0, 50);
        x.pass(1);
        Due.is("the first one copied 50 of 100", x.shard(0, 5), 50);
        Due.is("the second one did not fit", x.moves(false), 1);
        x.take(1);
        x.move(1, 0);
        x.pass(1);
        Due.is("the first one cut over and then the second one", x.moves(true), 3);
        Due.is("they changed places", x.shard(0, 2) * 10 + x.shard(1, 2), 10);
        Due.is("50 each", x.machineOf(0, 0) * 1000 + x.machineOf(1, 0), 50050);
    }

    private static ShardHarbour withShards(int count) {
        ShardHarbour x = withMachines();
        for (int number = 1; number < count; number++) {
            x.split(number * 10);
        }
        return x;
    }

    private static void promise11Ranges() {
        Due.range("move of the shard", 0, 0, Due.NO_SUCH, MovesTest::withKeys, (x, i) -> x.move(i, 1));
        Due.range("move of 16", 0, 15, Due.NO_SUCH, () -> withShards(16), (x, i) -> x.move(i, 2));
        Due.allows("move to the first machine", MovesTest::onTwo, x -> x.move(0, 0));
        Due.allows("move to the last machine", MovesTest::withKeys, x -> x.move(0, 2));
        for (int number : new int[] {-1, 3, Integer.MIN_VALUE, Integer.MAX_VALUE}) {
            Due.refuses("move(0, " + number + ")", Due.NO_SUCH, MovesTest::withKeys, x -> x.move(0, number));
            Due.refuses("move(0, " + number + ") of one that moves", Due.NO_SUCH, MovesTest::withMove,
                x -> x.move(0, number));
            Due.refuses("move(0, " + number + ") from one that is down", Due.NO_SUCH, () -> withOneDown(0),
                x -> x.move(0, number));
        }
        for (int number : new int[] {-1, 1}) {
            Due.refuses("no shard, and the machine of the others", Due.NO_SUCH, MovesTest::withKeys,
                x -> x.move(number, 0));
            Due.refuses("no shard, and a machine that is down", Due.NO_SUCH, () -> withOneDown(1),
                x -> x.move(number, 1));
        }
        Due.refuses("move without machines", Due.NO_SUCH, ShardHarbour::new, x -> x.move(0, 0));
        Due.refuses("move(0, NONE)", Due.NO_SUCH, ShardHarbour::new, x -> x.move(0, ShardHarbour.NONE));
    }

    private static ShardHarbour onTwo() {
        ShardHarbour x = withMachines();
        x.move(0, 2);
        x.pass(1);
        return x;
    }

    private static void promise11Refusals() {
        Due.refuses("it is on that", Due.NOT_NOW, MovesTest::withKeys, x -> x.move(0, 0));
        Due.refuses("it is on that now", Due.NOT_NOW, MovesTest::onTwo, x -> x.move(0, 2));
        Due.refuses("it moves there", Due.NOT_NOW, MovesTest::withMove, x -> x.move(0, 1));
        Due.refuses("it moves elsewhere", Due.NOT_NOW, MovesTest::withMove, x -> x.move(0, 2));
        Due.refuses("it moves, and is on that", Due.NOT_NOW, MovesTest::withMove, x -> x.move(0, 0));
        Due.refuses("the other one is down", Due.NOT_NOW, () -> withOneDown(1), x -> x.move(0, 1));
        Due.refuses("its own one is down", Due.NOT_NOW, () -> withOneDown(0), x -> x.move(0, 1));
        Due.allows("a third one is down", () -> withOneDown(2), x -> x.move(0, 1));
        Due.allows("it is up again", () -> {
            ShardHarbour x = withOneDown(1);
            x.down(1, false);
            return x;
        }, x -> x.move(0, 1));
        Due.allows("another shard moves there", () -> {
            ShardHarbour x = withKeys();
            x.split(500);
            x.move(1, 1);
            return x;
        }, x -> x.move(0, 1));
    }

    private static ShardHarbour withOneDown(int machine) {
        ShardHarbour x = withKeys();
        x.down(machine, true);
        return x;
    }

    private static ShardHarbour withMove() {
        ShardHarbour x = withKeys();
        x.move(0, 1);
        x.pass(1);
        return x;
    }

    private static void promise12CallOff() {
        ShardHarbour x = withMove();
        x.pass(1);
        Due.is("callOff(0)", x.callOff(0), 60);
        Due.is("rolled back", x.machineOf(1, 0), 0);
        Due.is("nothing was copied", x.shard(0, 5), 0);
        Due.is("it stays", x.shard(0, 2), 0);
        Due.is("it does not move", x.shard(0, 3), ShardHarbour.NONE);
        Due.is("it failed", x.moves(false), 1);
        x.write(0, 2, 40);
        Due.is("no copy is written", x.machineOf(1, 0), 0);
        x.move(0, 1);
        Due.is("at once", x.callOff(0), 0);
        x.move(0, 1);
        x.pass(1);
        Due.is("it begins anew", x.shard(0, 5), 40);
        x.write(0, 2, 70);
        Due.is("what was written there counts", x.callOff(0), 70);
    }

    private static void promise12Ranges() {
        Due.range("callOff of one", 0, 0, Due.NO_SUCH, MovesTest::withMove, (x, i) -> x.callOff(i));
        Due.range("callOff of 16", 0, 15, Due.NO_SUCH, () -> {
            ShardHarbour x = withShards(16);
            x.move(0, 1);
            x.move(15, 2);
            return x;
        }, (x, i) -> x.callOff(i));
        Due.refuses("no such shard, none moves", Due.NO_SUCH, MovesTest::withKeys, x -> x.callOff(1));
        Due.refuses("no such shard without machines", Due.NO_SUCH, ShardHarbour::new, x -> x.callOff(-1));
    }

    private static void promise12Refusals() {
        Due.refuses("it does not move", Due.NOT_NOW, MovesTest::withKeys, x -> x.callOff(0));
        Due.refuses("without machines", Due.NOT_NOW, ShardHarbour::new, x -> x.callOff(0));
        Due.refuses("it moved", Due.NOT_NOW, () -> {
            ShardHarbour x = withMove();
            x.pass(5);
            return x;
        }, x -> x.callOff(0));
        Due.refuses("it was called off", Due.NOT_NOW, () -> {
            ShardHarbour x = withMove();
            x.callOff(0);
            return x;
        }, x -> x.callOff(0));
        Due.refuses("it failed", Due.NOT_NOW, () -> {
            ShardHarbour x = withMove();
            x.down(1, true);
            return x;
        }, x -> x.callOff(0));
        Due.refuses("another one moves", Due.NOT_NOW, () -> {
            ShardHarbour x = withKeys();
            x.split(500);
            x.move(1, 1);
            return x;
        }, x -> x.callOff(0));
    }

    private static void promise22Moves() {
        ShardHarbour x = withMachines();
        x.split(500);
        x.move(0, 1);
        x.move(1, 2);
        Due.is("none done", x.moves(true), 0);
        Due.is("none failed", x.moves(false), 0);
        x.pass(1);
        Due.is("two done", x.moves(true), 2);
        Due.is("none failed", x.moves(false), 0);
        x.write(500, 0, 100);
        x.move(1, 0);
        x.pass(1);
        x.callOff(1);
        Due.is("one called off", x.moves(false), 1);
        x.move(1, 0);
        x.down(0, true);
        Due.is("two failed", x.moves(false), 2);
        Due.is("two done", x.moves(true), 2);
        Due.is("none without machines", new ShardHarbour().moves(true), 0);
    }

    private static void promise22AllOfOneHour() {
        ShardHarbour x = withShards(16);
        for (int shard = 0; shard < 16; shard++) {
            x.move(shard, 1);
        }
        x.pass(1);
        Due.is("16 done", x.moves(true), 16);
        Due.is("16 are there", x.machineOf(1, 3), 16);
        for (int shard = 0; shard < 16; shard++) {
            x.move(shard, 0);
        }
        x.down(0, true);
        Due.is("16 failed", x.moves(false), 16);
        Due.is("no more are done", x.moves(true), 16);
    }
}
