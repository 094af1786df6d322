/** Promises 20 (billAnew) and 21 (whereAnew). */
public final class LogTest {
    public static void main(String[] args) {
        promise20BillAnew();
        promise20WrongInputs();
        promise21WhereAnew();
        promise21SplitAndJoined();
        promise21WrongInputs();
        Due.end();
    }

    private static ShardHarbour withMachines() {
        ShardHarbour x = new ShardHarbour();
        x.machine(1000);
        x.machine(1000);
        x.machine(1000);
        return x;
    }

    private static void billsAre(ShardHarbour x, int... want) {
        for (int tenant = 0; tenant < want.length; tenant++) {
            Due.is("bill of " + tenant, x.tenant(tenant, 2), want[tenant]);
            Due.is("bill anew of " + tenant, x.billAnew(tenant), want[tenant]);
        }
    }

    private static void promise20BillAnew() {
        ShardHarbour x = withMachines();
        x.pass(5);
        billsAre(x, 0, 0, 0, 0);
        x.write(1, 0, 10);
        x.write(2, 0, 20);
        billsAre(x, 0, 0, 0, 0);
        x.pass(2);
        billsAre(x, 60, 0, 0, 0);
        x.write(1, 1, 5);
        x.write(2, 0, 30);
        x.pass(1);
        billsAre(x, 90, 5, 0, 0);
        x.take(2);
        x.pass(10);
        billsAre(x, 90, 55, 0, 0);
        x.take(1);
        x.write(1, 3, 100);
        x.pass(200);
        billsAre(x, 90, 55, 0, 20000);
        x.move(0, 1);
        x.pass(3);
        x.down(1, true);
        x.pass(1);
        billsAre(x, 90, 55, 0, 20400);
    }

    private static void promise20WrongInputs() {
        for (int tenant : new int[] {-1, 4, Integer.MIN_VALUE, Integer.MAX_VALUE}) {
            Due.refuses("billAnew(" + tenant + ")", Due.NO_SUCH, LogTest::withMachines, x -> x.billAnew(tenant));
        }
    }

    private static void promise21WhereAnew() {
        ShardHarbour x = new ShardHarbour();
        Due.is("without machines", x.whereAnew(0), ShardHarbour.NONE);
        x.machine(1000);
        Due.is("with one", x.whereAnew(999), 0);
        x.machine(1000);
        x.machine(1000);
        x.split(300);
        x.write(400, 0, 60);
        x.move(1, 2);
        x.pass(1);
        Due.is("while it moves", x.whereAnew(400), 0);
        x.pass(1);
        Due.is("when it cut over", x.whereAnew(400), 2);
        Due.is("its first key", x.whereAnew(300), 2);
        Due.is("its last key", x.whereAnew(999), 2);
        Due.is("the key ahead of it", x.whereAnew(299), 0);
        x.move(1, 1);
        x.callOff(1);
        Due.is("a move that failed", x.whereAnew(300), 2);
        x.down(2, true);
        Due.is("a machine that is down", x.whereAnew(300), 2);
    }

    private static void promise21SplitAndJoined() {
        ShardHarbour x = withMachines();
        x.split(300);
        x.move(1, 2);
        x.pass(1);
        x.split(600);
        x.move(1, 1);
        x.pass(1);
        Due.is("the part that moved on", x.whereAnew(300) * 10 + x.whereAnew(599), 11);
        Due.is("the part that stayed", x.whereAnew(600) * 10 + x.whereAnew(999), 22);
        x.move(0, 1);
        x.pass(1);
        x.join(0);
        x.move(0, 2);
        x.pass(1);
        x.join(0);
        Due.is("all in one", x.shards(), 1);
        for (int key = 0; key <= 999; key += 111) {
            Due.is("all at 2", x.whereAnew(key), 2);
        }
        x.limit(1);
        x.read(0);
        x.pass(2);
        Due.is("a move that heat drew", x.whereAnew(555), 0);
    }

    private static void promise21WrongInputs() {
        for (int key : new int[] {-1, 1000, Integer.MIN_VALUE, Integer.MAX_VALUE}) {
            Due.refuses("whereAnew(" + key + ")", Due.NO_SUCH, LogTest::withMachines, x -> x.whereAnew(key));
            Due.refuses("whereAnew(" + key + ") without machines", Due.NO_SUCH, ShardHarbour::new,
                x -> x.whereAnew(key));
        }
    }
}
