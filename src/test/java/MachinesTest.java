/** Promises 1 (a new object), 2 (machine), 3 (down) and 18 (machineOf). */
public final class MachinesTest {
    public static void main(String[] args) {
        promise1NewObject();
        promise1NothingAtAnyKey();
        promise1NoLimit();
        promise2Machine();
        promise2AllShardsSettle();
        promise2RoomIsKeptTo();
        promise2Ranges();
        promise2Refusals();
        promise3Down();
        promise3Ranges();
        promise3MovesFail();
        promise3UpAgain();
        promise18MachineOf();
        promise18CutOver();
        promise18Ranges();
        Due.end();
    }

    private static ShardHarbour withMachines(int count) {
        ShardHarbour x = new ShardHarbour();
        for (int i = 0; i < count; i++) {
            x.machine(1000);
        }
        return x;
    }

    private static void promise1NewObject() {
        ShardHarbour x = new ShardHarbour();
        Due.is("new hour", x.hour(), 0);
        Due.is("new shards", x.shards(), 1);
        Due.is("new limit", x.limit(0), 0);
        Due.is("new moves done", x.moves(true), 0);
        Due.is("new moves failed", x.moves(false), 0);
        Due.is("new first key", x.shard(0, 0), 0);
        Due.is("new last key", x.shard(0, 1), 999);
        Due.is("new place", x.shard(0, 2), ShardHarbour.NONE);
        Due.is("new target", x.shard(0, 3), ShardHarbour.NONE);
        for (int what = 4; what <= 6; what++) {
            Due.is("new shard " + what, x.shard(0, what), 0);
        }
        for (int tenant = 0; tenant <= 3; tenant++) {
            Due.is("new bytes", x.tenant(tenant, 0), 0);
            Due.is("new quota", x.tenant(tenant, 1), 1000);
            Due.is("new bill", x.tenant(tenant, 2), 0);
            Due.is("new bill anew", x.billAnew(tenant), 0);
        }
        Due.is("new place of a key anew", x.whereAnew(0), ShardHarbour.NONE);
        x.machine(1000);
        x.read(0);
        Due.is("objects share nothing", new ShardHarbour().shard(0, 6), 0);
        Due.refuses("no machine is there", Due.NO_SUCH, ShardHarbour::new, y -> y.machineOf(0, 0));
        Due.refuses("no second shard is there", Due.NO_SUCH, ShardHarbour::new, y -> y.shard(1, 0));
    }

    private static void promise1NothingAtAnyKey() {
        for (int first = 0; first < 1000; first += 500) {
            ShardHarbour x = withMachines(1);
            int bytes = 0;
            for (int key = first; key < first + 500; key++) {
                bytes += x.read(key);
            }
            Due.is("nothing at the keys from " + first, bytes, 0);
        }
    }

    private static void promise1NoLimit() {
        ShardHarbour x = withMachines(2);
        for (int i = 0; i < 400; i++) {
            x.read(0);
        }
        x.pass(1);
        Due.is("without a limit no heat draws a move", x.shard(0, 3), ShardHarbour.NONE);
    }

    private static void promise2Machine() {
        ShardHarbour x = new ShardHarbour();
        x.split(500);
        Due.is("the first machine", x.machine(100), 0);
        Due.is("shard 0 goes there", x.shard(0, 2), 0);
        Due.is("shard 1 goes there", x.shard(1, 2), 0);
        for (int number = 1; number < 6; number++) {
            Due.is("machine", x.machine(10000), number);
            Due.is("it is up", x.machineOf(number, 1), 1);
            Due.is("it holds nothing", x.machineOf(number, 0), 0);
            Due.is("it has no heat", x.machineOf(number, 2), 0);
            Due.is("no shard is on it", x.machineOf(number, 3), 0);
        }
        Due.is("both shards are still there", x.machineOf(0, 3), 2);
    }

    private static void promise2AllShardsSettle() {
        ShardHarbour x = new ShardHarbour();
        for (int key = 1; key <= 15; key++) {
            x.split(key);
        }
        for (int shard = 0; shard < 16; shard++) {
            Due.is("on no machine", x.shard(shard, 2), ShardHarbour.NONE);
        }
        Due.is("the first machine", x.machine(1000), 0);
        Due.is("all 16 are on it", x.machineOf(0, 3), 16);
        Due.is("a second one", x.machine(1000), 1);
        Due.is("all 16 are on the first one still", x.machineOf(0, 3), 16);
        x.join(0);
        x.split(500);
        Due.is("a new one is, too", x.shard(15, 2), 0);
    }

    private static ShardHarbour withRoom(int room) {
        ShardHarbour x = new ShardHarbour();
        x.machine(room);
        x.quota(0, 20000);
        for (int key = 0; key < room / 100; key++) {
            x.write(key, 0, 100);
        }
        return x;
    }

    private static void promise2RoomIsKeptTo() {
        for (int room : new int[] {100, 10000}) {
            Due.is("all of the room " + room, withRoom(room).machineOf(0, 0), room);
            Due.refuses("a byte beyond " + room, Due.NOT_NOW, () -> withRoom(room), x -> x.write(999, 1, 1));
        }
    }

    private static void promise2Ranges() {
        Due.range("room of the first one", 100, 10000, Due.OUT_OF_RANGE, ShardHarbour::new,
            (x, room) -> x.machine(room));
        Due.range("room of the sixth one", 100, 10000, Due.OUT_OF_RANGE, () -> withMachines(5),
            (x, room) -> x.machine(room));
    }

    private static void promise2Refusals() {
        Due.refuses("a seventh machine", Due.NOT_NOW, () -> withMachines(6), x -> x.machine(100));
        Due.refuses("a seventh machine", Due.NOT_NOW, () -> withMachines(6), x -> x.machine(10000));
        for (int room : new int[] {99, 10001}) {
            Due.refuses("a seventh one with the room " + room, Due.OUT_OF_RANGE, () -> withMachines(6),
                x -> x.machine(room));
        }
    }

    private static void promise3Down() {
        ShardHarbour x = withMachines(6);
        Due.is("was it down", x.down(5, true), false);
        Due.is("it is down", x.machineOf(5, 1), 0);
        Due.is("was it down", x.down(5, true), true);
        Due.is("another is up", x.machineOf(4, 1), 1);
        Due.is("was it down", x.down(5, false), true);
        Due.is("it is up", x.machineOf(5, 1), 1);
        Due.is("was it down", x.down(5, false), false);
        x.write(3, 0, 70);
        x.down(0, true);
        Due.is("a machine that is down holds its bytes", x.machineOf(0, 0), 70);
        Due.is("its shard stays", x.machineOf(0, 3), 1);
        Due.is("its heat stays", x.machineOf(0, 2), 1);
        x.pass(1);
        Due.is("its bytes are billed", x.tenant(0, 2), 70);
        x.down(0, false);
        Due.is("it has them when it is up again", x.read(3), 70);
    }

    private static void promise3Ranges() {
        for (boolean isDown : new boolean[] {true, false}) {
            Due.range("down of six", 0, 5, Due.NO_SUCH, () -> withMachines(6), (x, i) -> x.down(i, isDown));
            Due.range("down of one", 0, 0, Due.NO_SUCH, () -> withMachines(1), (x, i) -> x.down(i, isDown));
            Due.refuses("down of none", Due.NO_SUCH, ShardHarbour::new, x -> x.down(0, isDown));
            Due.refuses("down of NONE", Due.NO_SUCH, ShardHarbour::new,
                x -> x.down(ShardHarbour.NONE, isDown));
        }
    }

    /** The shard 0 moves from 0 to 1, the shard 1 from 0 to 2; 40 bytes of each were copied. */
    private static ShardHarbour withTwoMoves() {
        ShardHarbour x = withMachines(6);
        x.split(500);
        x.write(10, 0, 40);
        x.write(20, 0, 40);
        x.write(510, 1, 40);
        x.write(520, 1, 40);
        x.move(0, 1);
        x.move(1, 2);
        x.pass(1);
        return x;
    }

    private static void promise3MovesFail() {
        ShardHarbour x = withTwoMoves();
        x.down(0, false);
        x.down(1, false);
        x.down(3, true);
        Due.is("no move fails by others, nor by machines that come up", x.moves(false), 0);
        x.down(1, true);
        Due.is("a target went down", x.moves(false), 1);
        Due.is("that move is over", x.shard(0, 3), ShardHarbour.NONE);
        Due.is("nothing was copied", x.shard(0, 5), 0);
        Due.is("nothing is held there", x.machineOf(1, 0), 0);
        Due.is("the other moves", x.shard(1, 3), 2);
        Due.is("what it copied stays", x.machineOf(2, 0), 40);
        x.down(1, true);
        Due.is("no move fails twice", x.moves(false), 1);
        ShardHarbour y = withTwoMoves();
        y.down(0, true);
        Due.is("both lost where they come from", y.moves(false), 2);
        Due.is("rolled back", y.machineOf(1, 0) + y.machineOf(2, 0), 0);
        Due.is("they stay", y.shard(0, 2) + y.shard(1, 2), 0);
        Due.is("what they come from holds all", y.machineOf(0, 0), 160);
    }

    private static void promise3UpAgain() {
        ShardHarbour x = withTwoMoves();
        x.down(1, true);
        x.down(1, false);
        x.pass(5);
        Due.is("a move that failed does not go on", x.shard(0, 2), 0);
        Due.is("the other one did", x.shard(1, 2), 2);
        Due.is("it can begin again", x.move(0, 1), 80);
        x.pass(1);
        Due.is("from nothing", x.shard(0, 5), 40);
    }

    private static void promise18MachineOf() {
        ShardHarbour x = withTwoMoves();
        x.read(0);
        Due.is("0 holds the bytes of its shards", x.machineOf(0, 0), 160);
        Due.is("1 holds what was copied", x.machineOf(1, 0), 40);
        Due.is("2 holds what was copied", x.machineOf(2, 0), 40);
        Due.is("the heat is there until the cut over", x.machineOf(0, 2), 3);
        Due.is("no heat by a copy", x.machineOf(1, 2), 0);
        Due.is("two shards on 0", x.machineOf(0, 3), 2);
        Due.is("none on 1", x.machineOf(1, 3), 0);
        x.down(3, true);
        Due.is("1 is up", x.machineOf(1, 1), 1);
        Due.is("3 is down", x.machineOf(3, 1), 0);
    }

    private static void promise18CutOver() {
        ShardHarbour x = withTwoMoves();
        x.read(0);
        x.pass(1);
        Due.is("0 holds nothing", x.machineOf(0, 0), 0);
        Due.is("1 holds a shard", x.machineOf(1, 0), 80);
        Due.is("half of the heat", x.machineOf(1, 2), 1);
        Due.is("none on 0", x.machineOf(0, 2), 0);
        Due.is("no shard on 0", x.machineOf(0, 3), 0);
        Due.is("one on 1", x.machineOf(1, 3), 1);
        x.move(0, 2);
        x.pass(1);
        Due.is("2 holds a shard and a copy", x.machineOf(2, 0), 120);
        x.pass(1);
        Due.is("2 holds both shards", x.machineOf(2, 0), 160);
        Due.is("both are on it", x.machineOf(2, 3), 2);
    }

    private static void promise18Ranges() {
        for (int what = 0; what <= 3; what++) {
            int asked = what;
            Due.range("machineOf of six", 0, 5, Due.NO_SUCH, () -> withMachines(6),
                (x, i) -> x.machineOf(i, asked));
            Due.refuses("machineOf of none", Due.NO_SUCH, ShardHarbour::new, x -> x.machineOf(0, asked));
        }
        Due.range("what of the first one", 0, 3, Due.OUT_OF_RANGE, MachinesTest::withTwoMoves,
            (x, what) -> x.machineOf(0, what));
        Due.range("what of the last one", 0, 3, Due.OUT_OF_RANGE, MachinesTest::withTwoMoves,
            (x, what) -> x.machineOf(5, what));
        for (int what : new int[] {-1, 4}) {
            Due.refuses("no such machine, and what " + what, Due.NO_SUCH, MachinesTest::withTwoMoves,
                x -> x.machineOf(6, what));
        }
    }
}
