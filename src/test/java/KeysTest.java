/** Promises 6 (write), 7 (take) and 8 (read). */
public final class KeysTest {
    public static void main(String[] args) {
        promise6Write();
        promise6Ranges();
        promise6FirstListed();
        promise6Refusals();
        promise6RoomWithCopies();
        promise6CopyIsWritten();
        promise6FirstAndLastCopied();
        promise6CopyFails();
        promise6CopyFitsJust();
        promise6RefusedRollsNothingBack();
        promise7Take();
        promise7Ranges();
        promise7Refusals();
        promise7InACopy();
        promise8Read();
        promise8Ranges();
        promise8Refusals();
        promises6And7LogIsFull();
        Due.end();
    }

    private static ShardHarbour withMachines() {
        ShardHarbour x = new ShardHarbour();
        x.machine(300);
        x.machine(150);
        x.quota(0, 20000);
        return x;
    }

    private static void promise6Write() {
        ShardHarbour x = withMachines();
        Due.is("write(0, 0, 1)", x.write(0, 0, 1), 1);
        Due.is("write(999, 0, 100)", x.write(999, 0, 100), 101);
        Due.is("write(999, 0, 60)", x.write(999, 0, 60), 61);
        Due.is("write(999, 3, 70)", x.write(999, 3, 70), 70);
        Due.is("0 has the rest", x.tenant(0, 0), 1);
        Due.is("the shard has all", x.shard(0, 4), 71);
        Due.is("the machine, too", x.machineOf(0, 0), 71);
        Due.is("each was 1 of heat", x.shard(0, 6), 4);
        Due.is("it is read", x.read(999), 70);
        Due.is("the same again", x.write(999, 3, 70), 70);
        Due.is("is heat, too", x.shard(0, 6), 6);
        Due.is("the other machine has none", x.machineOf(1, 0) + x.machineOf(1, 2), 0);
    }

    /** Something is at the first and at the last key. */
    private static ShardHarbour withBothEnds() {
        ShardHarbour x = withMachines();
        x.split(500);
        x.write(0, 0, 7);
        x.write(999, 3, 9);
        return x;
    }

    private static void promise6Ranges() {
        Due.range("write at the key", 0, 999, Due.NO_SUCH, KeysTest::withBothEnds,
            (x, key) -> x.write(key, 0, 1));
        Due.range("write at an empty key", 0, 999, Due.NO_SUCH, KeysTest::withMachines,
            (x, key) -> x.write(key, 3, 100));
        Due.range("write of the tenant", 0, 3, Due.NO_SUCH, KeysTest::withBothEnds,
            (x, tenant) -> x.write(0, tenant, 1));
        Due.range("write of bytes", 1, 100, Due.OUT_OF_RANGE, KeysTest::withBothEnds,
            (x, bytes) -> x.write(0, 0, bytes));
        Due.range("write of bytes at an empty key", 1, 100, Due.OUT_OF_RANGE, KeysTest::withMachines,
            (x, bytes) -> x.write(999, 3, bytes));
    }

    /** No such key or tenant comes ahead of the bytes, and these ahead of all that is not so now. */
    private static void promise6FirstListed() {
        for (int bytes : new int[] {0, 1, 100, 101}) {
            for (int key : new int[] {-1, 1000}) {
                Due.refuses("write(" + key + ", 0, " + bytes + ")", Due.NO_SUCH, KeysTest::withFullMachine,
                    x -> x.write(key, 0, bytes));
                Due.refuses("write(" + key + ", 0, " + bytes + ") without machines", Due.NO_SUCH,
                    ShardHarbour::new, x -> x.write(key, 0, bytes));
            }
            for (int tenant : new int[] {-1, 4}) {
                Due.refuses("write(4, " + tenant + ", " + bytes + ")", Due.NO_SUCH, KeysTest::withFullMachine,
                    x -> x.write(4, tenant, bytes));
                Due.refuses("write(4, " + tenant + ", " + bytes + ") without machines", Due.NO_SUCH,
                    ShardHarbour::new, x -> x.write(4, tenant, bytes));
            }
        }
        for (int bytes : new int[] {0, 101}) {
            Due.refuses(bytes + " without machines", Due.OUT_OF_RANGE, ShardHarbour::new,
                x -> x.write(0, 0, bytes));
            Due.refuses(bytes + " on one that is down", Due.OUT_OF_RANGE, () -> downAgain(true),
                x -> x.write(1, 0, bytes));
            Due.refuses(bytes + " on one that is full", Due.OUT_OF_RANGE, KeysTest::withFullMachine,
                x -> x.write(4, 0, bytes));
            Due.refuses(bytes + " above the quota", Due.OUT_OF_RANGE, () -> {
                ShardHarbour x = withMachines();
                x.quota(0, 0);
                return x;
            }, x -> x.write(4, 0, bytes));
        }
    }

    private static void promise6Refusals() {
        Due.refuses("write without machines", Due.NOT_NOW, ShardHarbour::new, x -> x.write(0, 0, 1));
        Due.refuses("write on one that is down", Due.NOT_NOW, () -> downAgain(true), x -> x.write(1, 0, 1));
        Due.allows("write on one that is up again", () -> downAgain(false), x -> x.write(1, 0, 1));
        Due.refuses("write beyond the room", Due.NOT_NOW, KeysTest::withFullMachine, x -> x.write(4, 1, 1));
        Due.refuses("more in place beyond the room", Due.NOT_NOW, KeysTest::withFullMachine,
            x -> x.write(3, 1, 100));
        Due.allows("as much in place", KeysTest::withFullMachine, x -> x.write(3, 1, 99));
        Due.allows("less in place", KeysTest::withFullMachine, x -> x.write(3, 0, 98));
        Due.allows("up to the room", KeysTest::withFullMachine, x -> {
            x.write(3, 0, 98);
            x.write(4, 1, 1);
        });
        Due.refuses("above the quota", Due.NOT_NOW, () -> withQuota(99), x -> x.write(4, 0, 100));
        Due.allows("up to the quota", () -> withQuota(100), x -> x.write(4, 0, 100));
        Due.refuses("of two machines its own one is down", Due.NOT_NOW, KeysTest::onTwoOneDown,
            x -> x.write(500, 0, 1));
        Due.allows("of two machines the other one is down", KeysTest::onTwoOneDown, x -> x.write(499, 0, 1));
    }

    private static ShardHarbour withQuota(int bytes) {
        ShardHarbour x = withMachines();
        x.quota(0, bytes);
        return x;
    }

    private static ShardHarbour downAgain(boolean isDown) {
        ShardHarbour x = withMachines();
        x.write(1, 0, 10);
        x.down(0, true);
        x.down(0, isDown);
        return x;
    }

    /** The shard 0 is on 0; the shard 1, from the key 500 on, is on 1, which is down. */
    private static ShardHarbour onTwoOneDown() {
        ShardHarbour x = withMachines();
        x.split(500);
        x.write(499, 0, 5);
        x.write(500, 0, 6);
        x.move(1, 1);
        x.pass(1);
        x.down(1, true);
        return x;
    }

    /** The machine 0 holds its 300 bytes, 99 of them at the key 3. */
    private static ShardHarbour withFullMachine() {
        ShardHarbour x = withMachines();
        x.write(1, 0, 100);
        x.write(2, 0, 100);
        x.write(3, 0, 99);
        x.write(9, 2, 1);
        return x;
    }

    /** Of the 150 bytes of the machine 1, which the empty shard 1 is on, a copy of the shard 0 takes 100. */
    private static ShardHarbour withCopyBesides() {
        ShardHarbour x = withMachines();
        x.split(500);
        x.move(1, 1);
        x.pass(1);
        x.write(10, 0, 100);
        x.write(20, 0, 100);
        x.move(0, 1);
        x.pass(2);
        return x;
    }

    private static void promise6RoomWithCopies() {
        Due.is("a copy of 100", withCopyBesides().machineOf(1, 0), 100);
        Due.refuses("51 beside a copy of 100", Due.NOT_NOW, KeysTest::withCopyBesides,
            x -> x.write(500, 1, 51));
        ShardHarbour x = withCopyBesides();
        Due.is("50 beside a copy of 100", x.write(500, 1, 50), 50);
        Due.is("the move goes on", x.shard(0, 3), 1);
        Due.is("all of the room", x.machineOf(1, 0), 150);
        x.callOff(0);
        Due.is("without the copy there is room", x.write(501, 1, 100), 150);
    }

    /** The shard 0 moves to 1; of the keys 10 and 20, with 40 bytes each, 10 was copied. */
    private static ShardHarbour withMove() {
        ShardHarbour x = withMachines();
        x.write(10, 0, 40);
        x.write(20, 0, 40);
        x.move(0, 1);
        x.pass(1);
        return x;
    }

    private static void promise6CopyIsWritten() {
        ShardHarbour x = withMove();
        Due.is("40 were copied", x.shard(0, 5), 40);
        x.write(10, 1, 70);
        Due.is("what was copied is written", x.shard(0, 5), 70);
        x.write(10, 1, 60);
        Due.is("less, too", x.shard(0, 5), 60);
        x.write(10, 1, 70);
        x.write(20, 0, 50);
        Due.is("what waits is not", x.shard(0, 5), 70);
        x.write(19, 1, 5);
        Due.is("nothing was copied of 19, and 5 are written there", x.shard(0, 5), 75);
        x.write(21, 1, 5);
        Due.is("21 waits", x.shard(0, 5), 75);
        Due.is("the copy", x.machineOf(1, 0), 75);
        Due.is("where it is", x.machineOf(0, 0), 130);
        x.take(10);
        Due.is("what is taken away is so in the copy", x.machineOf(1, 0), 5);
        x.take(20);
        Due.is("what waits was not there", x.machineOf(1, 0), 5);
        x.pass(1);
        Due.is("the copy is all", x.machineOf(1, 0), 10);
        Due.is("it cut over", x.shard(0, 2), 1);
    }

    private static void promise6FirstAndLastCopied() {
        ShardHarbour x = withMachines();
        x.split(100);
        x.split(200);
        x.write(199, 0, 51);
        x.move(1, 1);
        x.pass(1);
        x.write(100, 1, 1);
        Due.is("its first key was copied", x.shard(1, 5), 1);
        x.write(198, 1, 2);
        Due.is("the last one ahead of what waits, too", x.shard(1, 5), 3);
        x.write(199, 0, 52);
        Due.is("its last key waits", x.shard(1, 5), 3);
        x.write(99, 1, 4);
        x.write(200, 1, 8);
        Due.is("those of its neighbours are no copies", x.shard(1, 5), 3);
        Due.is("held are 3", x.machineOf(1, 0), 3);
        ShardHarbour y = withMachines();
        y.write(0, 0, 51);
        y.move(0, 1);
        y.pass(1);
        y.write(0, 0, 52);
        Due.is("of a shard whose first key waits nothing was copied", y.shard(0, 5), 0);
        y.callOff(0);
        y.move(0, 1);
        y.write(0, 0, 1);
        Due.is("nothing was copied ahead of the first hour", y.shard(0, 5), 0);
    }

    /** The machine 1 holds 40 of 150 bytes of the shard 1, and 100 copied of the key 10. */
    private static ShardHarbour withRoomForTen() {
        ShardHarbour x = withMachines();
        x.split(500);
        x.write(510, 0, 40);
        x.move(1, 1);
        x.pass(1);
        x.write(10, 0, 40);
        x.write(20, 0, 100);
        x.move(0, 1);
        x.pass(1);
        x.write(10, 0, 100);
        return x;
    }

    private static void promise6CopyFails() {
        ShardHarbour x = withRoomForTen();
        Due.is("40 and 100 are held", x.machineOf(1, 0), 140);
        Due.is("11 bytes more are written all the same", x.write(12, 0, 11), 251);
        Due.is("the move failed", x.moves(false), 1);
        Due.is("nothing was copied", x.shard(0, 5), 0);
        Due.is("it does not move", x.shard(0, 3), ShardHarbour.NONE);
        Due.is("the rest is held there", x.machineOf(1, 0), 40);
        Due.is("all is where it was", x.machineOf(0, 0), 211);
        Due.is("it is there", x.read(12), 11);
        Due.is("it was heat", x.shard(0, 6), 4);
        x.pass(1);
        Due.is("it is billed", x.tenant(0, 2), 40 + 180 + 251);
        Due.is("it was logged", x.billAnew(0), 40 + 180 + 251);
    }

    private static void promise6CopyFitsJust() {
        ShardHarbour x = withRoomForTen();
        x.write(11, 0, 10);
        Due.is("up to the room no move fails", x.moves(false), 0);
        Due.is("up to the room", x.machineOf(1, 0), 150);
        x.write(11, 0, 10);
        x.write(10, 0, 99);
        x.take(11);
        Due.is("as many, less and nothing fit as well", x.moves(false), 0);
        x.write(11, 1, 11);
        Due.is("up to the room again", x.machineOf(1, 0), 150);
        x.write(21, 1, 30);
        Due.is("what waits is not held there", x.moves(false), 0);
        x.write(12, 2, 1);
        Due.is("one byte more is too much", x.moves(false), 1);
        Due.is("it was written", x.tenant(2, 0), 1);
    }

    /** The shard 0 moves; both machines would hold too much by 100 bytes at the key 12, which was copied. */
    private static ShardHarbour withBothFull() {
        ShardHarbour x = withMachines();
        x.write(10, 0, 40);
        x.write(20, 0, 100);
        x.write(21, 0, 100);
        x.move(0, 1);
        x.pass(1);
        x.write(11, 0, 60);
        return x;
    }

    private static void promise6RefusedRollsNothingBack() {
        Due.refuses("its own machine has no room", Due.NOT_NOW, KeysTest::withBothFull,
            x -> x.write(12, 0, 100));
        Due.refuses("the tenant has no quota", Due.NOT_NOW, () -> {
            ShardHarbour x = withRoomForTen();
            x.quota(2, 10);
            return x;
        }, x -> x.write(12, 2, 11));
        Due.refuses("the bytes are out of range", Due.OUT_OF_RANGE, KeysTest::withRoomForTen,
            x -> x.write(12, 2, 101));
    }

    private static void promise7Take() {
        ShardHarbour x = withMachines();
        x.write(0, 0, 1);
        x.write(999, 3, 100);
        Due.is("take(999)", x.take(999), 100);
        Due.is("3 has nothing", x.tenant(3, 0), 0);
        Due.is("0 has it still", x.tenant(0, 0), 1);
        Due.is("the shard has 1", x.shard(0, 4), 1);
        Due.is("the machine has 1", x.machineOf(0, 0), 1);
        Due.is("heat", x.shard(0, 6), 3);
        Due.is("nothing is there", x.read(999), 0);
        Due.is("take(0)", x.take(0), 1);
        Due.is("it can be written again", x.write(0, 1, 9), 9);
    }

    private static void promise7Ranges() {
        Due.range("take at the key", 0, 999, Due.NO_SUCH, KeysTest::withBothEnds, (x, key) -> x.take(key));
        for (int key : new int[] {-1, 1000}) {
            Due.refuses("take(" + key + ") without machines", Due.NO_SUCH, ShardHarbour::new,
                x -> x.take(key));
            Due.refuses("take(" + key + ") on one that is down", Due.NO_SUCH, () -> downAgain(true),
                x -> x.take(key));
        }
    }

    private static void promise7Refusals() {
        Due.refuses("take without machines", Due.NOT_NOW, ShardHarbour::new, x -> x.take(0));
        Due.refuses("take of nothing", Due.NOT_NOW, KeysTest::withMachines, x -> x.take(0));
        Due.refuses("take beside something", Due.NOT_NOW, KeysTest::withBothEnds, x -> x.take(1));
        Due.refuses("take again", Due.NOT_NOW, () -> {
            ShardHarbour x = downAgain(false);
            x.take(1);
            return x;
        }, x -> x.take(1));
        Due.refuses("take on one that is down", Due.NOT_NOW, () -> downAgain(true), x -> x.take(1));
        Due.allows("take on one that is up again", () -> downAgain(false), x -> x.take(1));
        Due.refuses("of two machines its own one is down", Due.NOT_NOW, KeysTest::onTwoOneDown,
            x -> x.take(500));
        Due.allows("of two machines the other one is down", KeysTest::onTwoOneDown, x -> x.take(499));
        Due.allows("above the quota", () -> {
            ShardHarbour x = withBothEnds();
            x.quota(0, 0);
            return x;
        }, x -> x.take(0));
    }

    private static void promise7InACopy() {
        ShardHarbour x = withMove();
        x.take(10);
        Due.is("it is not copied any more", x.shard(0, 5), 0);
        Due.is("nor held there", x.machineOf(1, 0), 0);
        Due.refuses("nothing was there", Due.NOT_NOW, KeysTest::withMove, y -> y.take(19));
        x.take(20);
        Due.is("it moves still", x.shard(0, 3), 1);
        x.pass(1);
        Due.is("an empty shard cut over", x.shard(0, 2), 1);
        Due.is("no bytes", x.machineOf(0, 0) + x.machineOf(1, 0), 0);
    }

    private static void promise8Read() {
        ShardHarbour x = downAgain(false);
        Due.is("read(1)", x.read(1), 10);
        Due.is("read(0)", x.read(0), 0);
        Due.is("read(999)", x.read(999), 0);
        Due.is("heat of a write and three reads", x.shard(0, 6), 4);
        Due.is("nothing else is changed", x.shard(0, 4), 10);
        x.write(999, 1, 1);
        x.write(0, 1, 100);
        Due.is("the least", x.read(999), 1);
        Due.is("the most", x.read(0), 100);
        ShardHarbour moving = withMove();
        moving.read(10);
        Due.is("a read copies nothing", moving.shard(0, 5), 40);
        moving.down(1, true);
        Due.is("where it was it is read", moving.read(10), 40);
    }

    private static void promise8Ranges() {
        Due.range("read at the key", 0, 999, Due.NO_SUCH, KeysTest::withBothEnds, (x, key) -> x.read(key));
        Due.range("read at an empty key", 0, 999, Due.NO_SUCH, KeysTest::withMachines,
            (x, key) -> x.read(key));
        for (int key : new int[] {-1, 1000}) {
            Due.refuses("read(" + key + ") without machines", Due.NO_SUCH, ShardHarbour::new,
                x -> x.read(key));
            Due.refuses("read(" + key + ") on one that is down", Due.NO_SUCH, () -> downAgain(true),
                x -> x.read(key));
        }
    }

    private static void promise8Refusals() {
        Due.refuses("read without machines", Due.NOT_NOW, ShardHarbour::new, x -> x.read(0));
        Due.refuses("read on one that is down", Due.NOT_NOW, () -> downAgain(true), x -> x.read(1));
        Due.refuses("read of nothing on one that is down", Due.NOT_NOW, () -> downAgain(true), x -> x.read(0));
        Due.allows("read on one that is up again", () -> downAgain(false), x -> x.read(1));
        Due.refuses("of two machines its own one is down", Due.NOT_NOW, KeysTest::onTwoOneDown,
            x -> x.read(500));
        Due.allows("of two machines the other one is down", KeysTest::onTwoOneDown, x -> x.read(499));
    }

    /** The document promises nothing behind the 512th call; the class keeps to the 600 changes all the same. */
    private static void promises6And7LogIsFull() {
        Due.refuses("the 601st change, a write", Due.NOT_NOW, () -> withChanges(600), x -> x.write(6, 0, 1));
        Due.refuses("the 601st change, a take", Due.NOT_NOW, () -> withChanges(600), x -> x.take(5));
        Due.allows("the 600th change, a write", () -> withChanges(599), x -> x.write(6, 0, 1));
        Due.allows("the 600th change, a take", () -> withChanges(599), x -> x.take(6));
        Due.refuses("no such key, and 600 changes", Due.NO_SUCH, () -> withChanges(600), x -> x.take(1000));
        Due.refuses("no bytes, and 600 changes", Due.OUT_OF_RANGE, () -> withChanges(600),
            x -> x.write(6, 0, 0));
        Due.allows("a read is no change", () -> withChanges(600), x -> x.read(5));
        Due.allows("the 512th call, of which 509 are changes", () -> withChanges(508), x -> x.write(6, 0, 1));
    }

    /** Takes and writes by turns at the key 5; at the key 6 there is something. */
    private static ShardHarbour withChanges(int count) {
        ShardHarbour x = withMachines();
        x.write(6, 0, 2);
        x.write(5, 0, 10);
        for (int i = 2; i < count; i++) {
            if (i % 2 == 0) {
                x.take(5);
            } else {
                x.write(5, 2, 4);
            }
        }
        return x;
    }
}
