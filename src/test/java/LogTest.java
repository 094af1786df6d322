/** Promises 20 (billAnew) and 21 (whereAnew). */
public final class LogTest {
    public static void main(String[] args) {
        promise20BillAnew();
        promise20EmptyLog();
        promise20LongLog();
        promise20Ranges();
        promise21WhereAnew();
        promise21Edges();
        promise21SplitAndJoined();
        promise21Ranges();
        Due.end();
    }

    private static ShardHarbour withMachines() {
        ShardHarbour x = new ShardHarbour();
        x.machine(1000);
        x.machine(1000);
        x.machine(1000);
        return x;
    }

    private static void billsAre(ShardHarbour x, int... want) {
        for (int tenant = 0; tenant < want.length; tenant++) {
            Due.is("bill of " + tenant, x.tenant(tenant, 2), want[tenant]);
            Due.is("bill anew of " + tenant, x.billAnew(tenant), want[tenant]);
        }
    }

    private static void promise20BillAnew() {
        ShardHarbour x = withMachines();
        x.pass(5);
        billsAre(x, 0, 0, 0, 0);
        x.write(1, 0, 10);
        x.write(2, 0, 20);
        billsAre(x, 0, 0, 0, 0);
        x.pass(2);
        billsAre(x, 60, 0, 0, 0);
        x.write(1, 1, 5);
        x.write(2, 0, 30);
        x.pass(1);
        billsAre(x, 90, 5, 0, 0);
        x.take(2);
        x.pass(10);
        billsAre(x, 90, 55, 0, 0);
        x.take(1);
        x.write(1, 3, 100);
        x.pass(200);
        billsAre(x, 90, 55, 0, 20000);
        x.move(0, 1);
        x.pass(3);
        x.down(1, true);
        x.pass(1);
        billsAre(x, 90, 55, 0, 20400);
    }

    private static void promise20EmptyLog() {
        ShardHarbour x = withMachines();
        billsAre(x, 0, 0, 0, 0);
        x.pass(200);
        billsAre(x, 0, 0, 0, 0);
        x.write(0, 0, 100);
        x.take(0);
        x.pass(200);
        billsAre(x, 0, 0, 0, 0);
        x.write(0, 0, 1);
        x.write(0, 0, 2);
        x.pass(1);
        billsAre(x, 2, 0, 0, 0);
    }

    /** As many changes and hours as 512 calls leave room for. */
    private static void promise20LongLog() {
        ShardHarbour x = withMachines();
        int want = 0;
        for (int i = 0; i < 480; i++) {
            x.write(i % 7, i % 2, 1 + i % 100);
        }
        int bytes = x.tenant(0, 0);
        for (int i = 0; i < 10; i++) {
            x.pass(200);
            want += bytes * 200;
        }
        Due.is("the last hour", x.hour(), 2000);
        Due.is("bill", x.tenant(0, 2), want);
        Due.is("bill anew", x.billAnew(0), want);
    }

    private static ShardHarbour withBills() {
        ShardHarbour x = withMachines();
        x.write(1, 0, 10);
        x.write(2, 3, 20);
        x.pass(2);
        return x;
    }

    private static void promise20Ranges() {
        Due.range("billAnew of", 0, 3, Due.NO_SUCH, LogTest::withBills, (x, tenant) -> x.billAnew(tenant));
        Due.range("billAnew without machines of", 0, 3, Due.NO_SUCH, ShardHarbour::new,
            (x, tenant) -> x.billAnew(tenant));
        billsAre(withBills(), 20, 0, 0, 40);
    }

    private static void promise21WhereAnew() {
        ShardHarbour x = new ShardHarbour();
        Due.is("without machines", x.whereAnew(0), ShardHarbour.NONE);
        Due.is("without machines", x.whereAnew(999), ShardHarbour.NONE);
        x.machine(1000);
        Due.is("with one", x.whereAnew(0), 0);
        Due.is("with one", x.whereAnew(999), 0);
        x.machine(1000);
        x.machine(1000);
        Due.is("with three", x.whereAnew(999), 0);
        x.split(300);
        x.write(400, 0, 60);
        x.move(1, 2);
        x.pass(1);
        Due.is("while it moves", x.whereAnew(400), 0);
        x.pass(1);
        Due.is("when it cut over", x.whereAnew(400), 2);
        x.move(1, 1);
        x.callOff(1);
        Due.is("a move that failed", x.whereAnew(300), 2);
        x.down(2, true);
        Due.is("a machine that is down", x.whereAnew(300), 2);
    }

    private static void promise21Edges() {
        ShardHarbour x = withMachines();
        x.split(300);
        x.split(600);
        x.move(1, 2);
        x.pass(1);
        Due.is("the key ahead of its first one", x.whereAnew(299), 0);
        Due.is("its first key", x.whereAnew(300), 2);
        Due.is("its last key", x.whereAnew(599), 2);
        Due.is("the key behind its last one", x.whereAnew(600), 0);
        x.move(0, 1);
        x.move(2, 1);
        x.pass(1);
        Due.is("the first of all keys", x.whereAnew(0), 1);
        Due.is("the last of all keys", x.whereAnew(999), 1);
        Due.is("those between are where they were", x.whereAnew(300) * 10 + x.whereAnew(599), 22);
    }

    private static void promise21SplitAndJoined() {
        ShardHarbour x = withMachines();
        x.split(300);
        x.move(1, 2);
        x.pass(1);
        x.split(600);
        x.move(1, 1);
        x.pass(1);
        Due.is("the part that moved on", x.whereAnew(300) * 10 + x.whereAnew(599), 11);
        Due.is("the part that stayed", x.whereAnew(600) * 10 + x.whereAnew(999), 22);
        x.move(0, 1);
        x.pass(1);
        x.join(0);
        x.move(0, 2);
        x.pass(1);
        x.join(0);
        Due.is("all in one", x.shards(), 1);
        for (int key = 0; key <= 999; key += 111) {
            Due.is("all at 2", x.whereAnew(key), 2);
        }
        x.limit(1);
        x.read(0);
        x.pass(2);
        Due.is("a move that heat drew", x.whereAnew(555), 0);
    }

    private static void promise21Ranges() {
        Due.range("whereAnew of", 0, 999, Due.NO_SUCH, LogTest::withMachines, (x, key) -> x.whereAnew(key));
        Due.range("whereAnew without machines of", 0, 999, Due.NO_SUCH, ShardHarbour::new,
            (x, key) -> x.whereAnew(key));
    }
}
