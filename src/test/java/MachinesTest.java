/** Promises 1 (a new object), 2 (machine), 3 (down) and 18 (machineOf). */
public final class MachinesTest {
    public static void main(String[] args) {
        promise1NewObject();
        promise2Machine();
        promise2WrongInputs();
        promise3Down();
        promise3MovesFail();
        promise18MachineOf();
        promise18WrongInputs();
        Due.end();
    }

    private static void promise1NewObject() {
        ShardHarbour x = new ShardHarbour();
        Due.is("new hour", x.hour(), 0);
        Due.is("new shards", x.shards(), 1);
        Due.is("new limit", x.limit(0), 0);
        Due.is("new moves done", x.moves(true), 0);
        Due.is("new moves failed", x.moves(false), 0);
        Due.is("new first key", x.shard(0, 0), 0);
        Due.is("new last key", x.shard(0, 1), 999);
        Due.is("new place", x.shard(0, 2), ShardHarbour.NONE);
        Due.is("new target", x.shard(0, 3), ShardHarbour.NONE);
        for (int what = 4; what <= 6; what++) {
            Due.is("new shard " + what, x.shard(0, what), 0);
        }
        for (int tenant = 0; tenant <= 3; tenant++) {
            Due.is("new bytes", x.tenant(tenant, 0), 0);
            Due.is("new quota", x.tenant(tenant, 1), 1000);
            Due.is("new bill", x.tenant(tenant, 2), 0);
            Due.is("new bill anew", x.billAnew(tenant), 0);
        }
        Due.is("new place of a key anew", x.whereAnew(0), ShardHarbour.NONE);
        Due.refuses("machineOf without machines", Due.NO_SUCH, ShardHarbour::new, y -> y.machineOf(0, 0));
        x.machine(10000);
        for (int key = 0; key < 400; key++) {
            Due.is("new read", x.read(key), 0);
        }
        Due.is("objects share nothing", new ShardHarbour().shard(0, 6), 0);
    }

    private static void promise2Machine() {
        ShardHarbour x = new ShardHarbour();
        x.split(500);
        Due.is("the first machine", x.machine(100), 0);
        Due.is("shard 0 goes there", x.shard(0, 2), 0);
        Due.is("shard 1 goes there", x.shard(1, 2), 0);
        for (int number = 1; number < 6; number++) {
            Due.is("machine", x.machine(10000), number);
            Due.is("it is up", x.machineOf(number, 1), 1);
            Due.is("it holds nothing", x.machineOf(number, 0), 0);
            Due.is("no shard is on it", x.machineOf(number, 3), 0);
        }
        Due.is("shard 0 is still there", x.shard(0, 2), 0);
        x.write(0, 0, 100);
        Due.is("the room is kept to", x.machineOf(0, 0), 100);
    }

    private static void promise2WrongInputs() {
        for (int room : new int[] {99, 10001, 0, -1, Integer.MIN_VALUE, Integer.MAX_VALUE}) {
            Due.refuses("machine(" + room + ")", Due.OUT_OF_RANGE, ShardHarbour::new, x -> x.machine(room));
            Due.refuses("machine(" + room + ") as the seventh", Due.OUT_OF_RANGE,
                MachinesTest::withSixMachines, x -> x.machine(room));
        }
        Due.refuses("a seventh machine", Due.NOT_NOW, MachinesTest::withSixMachines, x -> x.machine(100));
    }

    private static ShardHarbour withSixMachines() {
        ShardHarbour x = new ShardHarbour();
        for (int i = 0; i < 6; i++) {
            x.machine(1000);
        }
        return x;
    }

    private static void promise3Down() {
        ShardHarbour x = withSixMachines();
        Due.is("was it down", x.down(5, true), false);
        Due.is("it is down", x.machineOf(5, 1), 0);
        Due.is("was it down", x.down(5, true), true);
        Due.is("another is up", x.machineOf(4, 1), 1);
        Due.is("was it down", x.down(5, false), true);
        Due.is("it is up", x.machineOf(5, 1), 1);
        Due.is("was it down", x.down(5, false), false);
        for (int machine : new int[] {-1, 6, 7, Integer.MIN_VALUE, Integer.MAX_VALUE}) {
            Due.refuses("down(" + machine + ")", Due.NO_SUCH, MachinesTest::withSixMachines,
                y -> y.down(machine, true));
        }
        Due.refuses("down without machines", Due.NO_SUCH, ShardHarbour::new, y -> y.down(0, false));
        x.write(3, 0, 70);
        x.down(0, true);
        Due.is("a machine that is down holds its bytes", x.machineOf(0, 0), 70);
        x.pass(1);
        Due.is("they are billed", x.tenant(0, 2), 70);
        x.down(0, false);
        Due.is("it has them when it is up again", x.read(3), 70);
    }

    /** The shard 0 moves from 0 to 1, the shard 1 from 0 to 2; 40 bytes of each were copied. */
    private static ShardHarbour withTwoMoves() {
        ShardHarbour x = withSixMachines();
        x.split(500);
        x.write(10, 0, 40);
        x.write(20, 0, 40);
        x.write(510, 1, 40);
        x.write(520, 1, 40);
        x.move(0, 1);
        x.move(1, 2);
        x.pass(1);
        return x;
    }

    private static void promise3MovesFail() {
        ShardHarbour x = withTwoMoves();
        x.down(1, false);
        x.down(3, true);
        Due.is("no move fails by others", x.moves(false), 0);
        x.down(1, true);
        Due.is("a target went down", x.moves(false), 1);
        Due.is("that move is over", x.shard(0, 3), ShardHarbour.NONE);
        Due.is("nothing was copied", x.shard(0, 5), 0);
        Due.is("nothing is held there", x.machineOf(1, 0), 0);
        Due.is("the other moves", x.shard(1, 3), 2);
        x.down(1, true);
        Due.is("no move fails twice", x.moves(false), 1);
        ShardHarbour y = withTwoMoves();
        y.down(0, true);
        Due.is("both lost where they come from", y.moves(false), 2);
        Due.is("rolled back", y.machineOf(1, 0) + y.machineOf(2, 0), 0);
        Due.is("they stay", y.shard(0, 2) + y.shard(1, 2), 0);
        Due.is("what they come from holds all", y.machineOf(0, 0), 160);
    }

    private static void promise18MachineOf() {
        ShardHarbour x = withTwoMoves();
        x.read(0);
        Due.is("0 holds the bytes of its shards", x.machineOf(0, 0), 160);
        Due.is("1 holds what was copied", x.machineOf(1, 0), 40);
        Due.is("2 holds what was copied", x.machineOf(2, 0), 40);
        Due.is("the heat is there until the cut over", x.machineOf(0, 2), 3);
        Due.is("no heat by a copy", x.machineOf(1, 2), 0);
        Due.is("two shards on 0", x.machineOf(0, 3), 2);
        Due.is("none on 1", x.machineOf(1, 3), 0);
        x.pass(1);
        Due.is("0 holds nothing", x.machineOf(0, 0), 0);
        Due.is("1 holds a shard", x.machineOf(1, 0), 80);
        Due.is("half of the heat", x.machineOf(1, 2), 1);
        Due.is("none on 0", x.machineOf(0, 3), 0);
        Due.is("one on 1", x.machineOf(1, 3), 1);
    }

    private static void promise18WrongInputs() {
        for (int machine : new int[] {-1, 6, Integer.MIN_VALUE, Integer.MAX_VALUE}) {
            Due.refuses("machineOf(" + machine + ", 0)", Due.NO_SUCH, MachinesTest::withSixMachines,
                x -> x.machineOf(machine, 0));
            Due.refuses("machineOf(" + machine + ", 4)", Due.NO_SUCH, MachinesTest::withSixMachines,
                x -> x.machineOf(machine, 4));
        }
        for (int what : new int[] {-1, 4, Integer.MIN_VALUE, Integer.MAX_VALUE}) {
            Due.refuses("machineOf(5, " + what + ")", Due.OUT_OF_RANGE, MachinesTest::withSixMachines,
                x -> x.machineOf(5, what));
        }
    }
}
