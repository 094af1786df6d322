/** Promises 6 (write), 7 (take) and 8 (read). */
public final class KeysTest {
    private static final int[] NO_KEYS = {-1, 1000, Integer.MIN_VALUE, Integer.MAX_VALUE};

    public static void main(String[] args) {
        promise6Write();
        promise6WrongInputs();
        promise6Refusals();
        promise6CopyIsWritten();
        promise6CopyFails();
        promise7Take();
        promise7Refusals();
        promise8Read();
        promises6And7LogIsFull();
        Due.end();
    }

    private static ShardHarbour withMachines() {
        ShardHarbour x = new ShardHarbour();
        x.machine(300);
        x.machine(150);
        x.quota(0, 20000);
        return x;
    }

    private static void promise6Write() {
        ShardHarbour x = withMachines();
        Due.is("write(0, 0, 1)", x.write(0, 0, 1), 1);
        Due.is("write(999, 0, 100)", x.write(999, 0, 100), 101);
        Due.is("write(999, 0, 60)", x.write(999, 0, 60), 61);
        Due.is("write(999, 3, 70)", x.write(999, 3, 70), 70);
        Due.is("0 has the rest", x.tenant(0, 0), 1);
        Due.is("the shard has all", x.shard(0, 4), 71);
        Due.is("the machine, too", x.machineOf(0, 0), 71);
        Due.is("each was 1 of heat", x.shard(0, 6), 4);
        Due.is("it is read", x.read(999), 70);
    }

    private static void promise6WrongInputs() {
        for (int key : NO_KEYS) {
            Due.refuses("write(" + key + ", 0, 1)", Due.NO_SUCH, KeysTest::withMachines, x -> x.write(key, 0, 1));
            Due.refuses("write(" + key + ", 0, 0)", Due.NO_SUCH, ShardHarbour::new, x -> x.write(key, 0, 0));
        }
        for (int tenant : new int[] {-1, 4, Integer.MIN_VALUE, Integer.MAX_VALUE}) {
            Due.refuses("write(0, " + tenant + ", 1)", Due.NO_SUCH, KeysTest::withMachines,
                x -> x.write(0, tenant, 1));
            Due.refuses("write(0, " + tenant + ", 101)", Due.NO_SUCH, ShardHarbour::new,
                x -> x.write(0, tenant, 101));
        }
        for (int bytes : new int[] {0, -1, 101, Integer.MIN_VALUE, Integer.MAX_VALUE}) {
            Due.refuses("write(0, 0, " + bytes + ")", Due.OUT_OF_RANGE, KeysTest::withMachines,
                x -> x.write(0, 0, bytes));
            Due.refuses("write(0, 0, " + bytes + ") without machines", Due.OUT_OF_RANGE, ShardHarbour::new,
                x -> x.write(0, 0, bytes));
        }
    }

    private static void promise6Refusals() {
        Due.refuses("write without machines", Due.NOT_NOW, ShardHarbour::new, x -> x.write(0, 0, 1));
        Due.refuses("write on one that is down", Due.NOT_NOW, () -> downAgain(true), x -> x.write(1, 0, 1));
        Due.allows("write on one that is up again", () -> downAgain(false), x -> x.write(1, 0, 1));
        Due.refuses("write beyond the room", Due.NOT_NOW, KeysTest::withFullMachine, x -> x.write(4, 1, 1));
        Due.refuses("more in place beyond the room", Due.NOT_NOW, KeysTest::withFullMachine,
            x -> x.write(3, 1, 100));
        Due.allows("as much in place", KeysTest::withFullMachine, x -> x.write(3, 1, 99));
        Due.allows("less in place", KeysTest::withFullMachine, x -> x.write(3, 0, 98));
        Due.allows("up to the room", KeysTest::withFullMachine, x -> {
            x.write(3, 0, 98);
            x.write(4, 1, 1);
        });
    }

    private static ShardHarbour downAgain(boolean isDown) {
        ShardHarbour x = withMachines();
        x.write(1, 0, 10);
        x.down(0, true);
        x.down(0, isDown);
        return x;
    }

    /** The machine 0 holds its 300 bytes, 99 of them at the key 3. */
    private static ShardHarbour withFullMachine() {
        ShardHarbour x = withMachines();
        x.write(1, 0, 100);
        x.write(2, 0, 100);
        x.write(3, 0, 99);
        x.write(9, 2, 1);
        return x;
    }

    /** The shard 0 moves to 1; of the keys 10 and 20, with 40 bytes each, 10 was copied. */
    private static ShardHarbour withMove() {
        ShardHarbour x = withMachines();
        x.write(10, 0, 40);
        x.write(20, 0, 40);
        x.move(0, 1);
        x.pass(1);
        return x;
    }

    private static void promise6CopyIsWritten() {
        ShardHarbour x = withMove();
        Due.is("40 were copied", x.shard(0, 5), 40);
        x.write(10, 1, 70);
        Due.is("what was copied is written", x.shard(0, 5), 70);
        x.write(20, 0, 50);
        Due.is("what waits is not", x.shard(0, 5), 70);
        x.write(19, 1, 5);
        Due.is("nothing was copied of 19, and 5 are written there", x.shard(0, 5), 75);
        x.write(21, 1, 5);
        Due.is("21 waits", x.shard(0, 5), 75);
        Due.is("the copy", x.machineOf(1, 0), 75);
        Due.is("where it is", x.machineOf(0, 0), 130);
        x.take(10);
        Due.is("what is taken away is so in the copy", x.machineOf(1, 0), 5);
        x.take(20);
        Due.is("what waits was not there", x.machineOf(1, 0), 5);
        x.pass(1);
        Due.is("the copy is all", x.machineOf(1, 0), 10);
        Due.is("it cut over", x.shard(0, 2), 1);
    }

    private static void promise6CopyFails() {
        ShardHarbour x = withMachines();
        x.split(500);
        x.write(510, 0, 40);
        x.move(1, 1);
        x.pass(1);
        x.write(10, 0, 40);
        x.write(20, 0, 100);
        x.move(0, 1);
        x.pass(1);
        x.write(10, 0, 100);
        Due.is("40 and 100 are held", x.machineOf(1, 0), 140);
        x.write(11, 0, 10);
        Due.is("up to the room no move fails", x.moves(false), 0);
        Due.is("up to the room", x.machineOf(1, 0), 150);
        Due.is("one byte more is written all the same", x.write(12, 0, 1), 251);
        Due.is("the move failed", x.moves(false), 1);
        Due.is("nothing was copied", x.shard(0, 5), 0);
        Due.is("it does not move", x.shard(0, 3), ShardHarbour.NONE);
        Due.is("the rest is held there", x.machineOf(1, 0), 40);
        Due.is("all is where it was", x.machineOf(0, 0), 211);
        Due.is("it is there", x.read(12), 1);
        Due.refuses("a write that is refused rolls nothing back", Due.NOT_NOW, KeysTest::withBothFull,
            y -> y.write(12, 0, 100));
    }

    /** The shard 0 moves; both machines would hold too much by 100 bytes at the key 12, which was copied. */
    private static ShardHarbour withBothFull() {
        ShardHarbour x = withMachines();
        x.write(10, 0, 40);
        x.write(20, 0, 100);
        x.write(21, 0, 100);
        x.move(0, 1);
        x.pass(1);
        x.write(11, 0, 60);
        return x;
    }

    private static void promise7Take() {
        ShardHarbour x = withMachines();
        x.write(0, 0, 1);
        x.write(999, 3, 100);
        Due.is("take(999)", x.take(999), 100);
        Due.is("3 has nothing", x.tenant(3, 0), 0);
        Due.is("0 has it still", x.tenant(0, 0), 1);
        Due.is("the shard has 1", x.shard(0, 4), 1);
        Due.is("the machine has 1", x.machineOf(0, 0), 1);
        Due.is("heat", x.shard(0, 6), 3);
        Due.is("nothing is there", x.read(999), 0);
        Due.is("take(0)", x.take(0), 1);
        Due.is("it can be written again", x.write(0, 1, 9), 9);
    }

    private static void promise7Refusals() {
        for (int key : NO_KEYS) {
            Due.refuses("take(" + key + ")", Due.NO_SUCH, KeysTest::withMachines, x -> x.take(key));
        }
        Due.refuses("take without machines", Due.NOT_NOW, ShardHarbour::new, x -> x.take(0));
        Due.refuses("take of nothing", Due.NOT_NOW, KeysTest::withMachines, x -> x.take(0));
        Due.refuses("take again", Due.NOT_NOW, () -> {
            ShardHarbour x = downAgain(false);
            x.take(1);
            return x;
        }, x -> x.take(1));
        Due.refuses("take on one that is down", Due.NOT_NOW, () -> downAgain(true), x -> x.take(1));
        Due.allows("take on one that is up again", () -> downAgain(false), x -> x.take(1));
    }

    private static void promise8Read() {
        ShardHarbour x = downAgain(false);
        Due.is("read(1)", x.read(1), 10);
        Due.is("read(0)", x.read(0), 0);
        Due.is("read(999)", x.read(999), 0);
        Due.is("heat of a write and three reads", x.shard(0, 6), 4);
        Due.is("nothing else is changed", x.shard(0, 4), 10);
        for (int key : NO_KEYS) {
            Due.refuses("read(" + key + ")", Due.NO_SUCH, ShardHarbour::new, y -> y.read(key));
        }
        Due.refuses("read without machines", Due.NOT_NOW, ShardHarbour::new, y -> y.read(0));
        Due.refuses("read on one that is down", Due.NOT_NOW, () -> downAgain(true), y -> y.read(1));
        ShardHarbour moving = withMove();
        moving.down(1, true);
        Due.is("where it was it is read", moving.read(10), 40);
    }

    /** The document promises nothing behind the 512th call; the class keeps to the 600 changes all the same. */
    private static void promises6And7LogIsFull() {
        ShardHarbour x = withMachines();
        for (int i = 0; i < 300; i++) {
            x.write(5, 0, 10);
            x.take(5);
        }
        Due.is("take and write count", x.tenant(0, 0), 0);
        boolean isRefused = false;
        try {
            x.write(5, 0, 10);
        } catch (IllegalStateException full) {
            isRefused = true;
        }
        Due.is("the 601st change is refused", isRefused, true);
        ShardHarbour y = withMachines();
        for (int i = 0; i < 600; i++) {
            y.write(5, 0, 10);
        }
        isRefused = false;
        try {
            y.take(5);
        } catch (IllegalStateException full) {
            isRefused = true;
        }
        Due.is("the 601st change is refused", isRefused, true);
        Due.is("it is still there", y.read(5), 10);
    }
}
