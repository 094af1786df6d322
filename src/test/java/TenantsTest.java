/** Promises 4 (quota) and 19 (tenant). */
public final class TenantsTest {
    public static void main(String[] args) {
        promise4Quota();
        promise4FirstQuota();
        promise4LeastAndMost();
        promise4Lowered();
        promise4InPlaceOfAnother();
        promise4Ranges();
        promise19Tenant();
        promise19Ranges();
        Due.end();
    }

    private static ShardHarbour withMachine() {
        ShardHarbour x = new ShardHarbour();
        x.machine(10000);
        return x;
    }

    /** The tenant 0 has 150 bytes, the tenant 1 has 10 at the key 9. */
    private static ShardHarbour full(int quota) {
        ShardHarbour x = withMachine();
        x.write(1, 0, 100);
        x.write(2, 0, 50);
        x.write(9, 1, 10);
        x.quota(0, quota);
        return x;
    }

    private static void promise4Quota() {
        ShardHarbour x = withMachine();
        Due.is("quota(0, 150)", x.quota(0, 150), 1000);
        Due.is("quota(3, 20000)", x.quota(3, 20000), 1000);
        Due.is("quota(0, 151)", x.quota(0, 151), 150);
        Due.is("quota(0, 151)", x.quota(0, 151), 151);
        Due.is("quota(3, 0)", x.quota(3, 0), 20000);
        Due.is("that of 1 is as it was", x.tenant(1, 1), 1000);
        Due.refuses("a byte more than the quota", Due.NOT_NOW, () -> full(150), y -> y.write(3, 0, 1));
        Due.allows("up to the quota", () -> full(151), y -> y.write(3, 0, 1));
        Due.allows("another one has its own", () -> full(150), y -> y.write(3, 1, 100));
    }

    private static ShardHarbour withThousand(int tenant) {
        ShardHarbour x = withMachine();
        for (int key = 0; key < 10; key++) {
            x.write(key, tenant, 100);
        }
        return x;
    }

    private static void promise4FirstQuota() {
        for (int tenant = 0; tenant <= 3; tenant++) {
            int asked = tenant;
            Due.is("1000 at first", withThousand(tenant).tenant(tenant, 0), 1000);
            Due.refuses("1001 at first", Due.NOT_NOW, () -> withThousand(asked), x -> x.write(10, asked, 1));
            Due.refuses("1001 in place", Due.NOT_NOW, () -> {
                ShardHarbour x = withThousand(asked);
                x.write(0, asked, 50);
                x.write(10, asked, 50);
                return x;
            }, x -> x.write(0, asked, 51));
        }
    }

    /** Three shards on three machines of the most room; the tenant 0 has 20000 bytes on two of them. */
    private static ShardHarbour withMostBytes() {
        ShardHarbour x = withMachine();
        x.machine(10000);
        x.machine(10000);
        x.split(300);
        x.split(600);
        x.move(1, 1);
        x.move(2, 2);
        x.pass(1);
        x.quota(0, 20000);
        for (int key = 0; key < 100; key++) {
            x.write(key, 0, 100);
            x.write(300 + key, 0, 100);
        }
        return x;
    }

    private static void promise4LeastAndMost() {
        Due.is("20000 of 20000", withMostBytes().tenant(0, 0), 20000);
        Due.refuses("20001 of 20000", Due.NOT_NOW, TenantsTest::withMostBytes, x -> x.write(600, 0, 1));
        Due.allows("there is room for another", TenantsTest::withMostBytes, x -> x.write(600, 1, 1));
        Due.refuses("a byte with the quota 0", Due.NOT_NOW, () -> {
            ShardHarbour x = withMachine();
            x.quota(2, 0);
            return x;
        }, x -> x.write(0, 2, 1));
        Due.allows("a byte with the quota 1", () -> {
            ShardHarbour x = withMachine();
            x.quota(2, 1);
            return x;
        }, x -> x.write(0, 2, 1));
    }

    private static void promise4Lowered() {
        ShardHarbour x = full(0);
        Due.is("the bytes stay", x.tenant(0, 0), 150);
        Due.is("they are read", x.read(1), 100);
        x.pass(1);
        Due.is("they are billed", x.tenant(0, 2), 150);
        Due.is("they can be taken away", x.take(1), 100);
        Due.refuses("less, but more than the quota", Due.NOT_NOW, () -> full(100), y -> y.write(1, 0, 51));
        Due.allows("less, up to the quota", () -> full(100), y -> y.write(1, 0, 50));
        Due.refuses("quota 0", Due.NOT_NOW, () -> full(0), y -> y.write(1, 0, 1));
    }

    private static void promise4InPlaceOfAnother() {
        Due.refuses("all bytes count in place of another's", Due.NOT_NOW, () -> full(150),
            x -> x.write(9, 0, 1));
        Due.allows("as many as are left", () -> full(160), x -> x.write(9, 0, 10));
        Due.refuses("one more than are left", Due.NOT_NOW, () -> full(160), x -> x.write(9, 0, 11));
        ShardHarbour x = full(0);
        Due.is("the quota of the other one does not count", x.write(1, 1, 100), 110);
        Due.is("the other one has less", x.tenant(0, 0), 50);
    }

    private static void promise4Ranges() {
        Due.range("tenant", 0, 3, Due.NO_SUCH, () -> full(7), (x, tenant) -> x.quota(tenant, 1));
        for (int tenant = 0; tenant <= 3; tenant++) {
            int asked = tenant;
            Due.range("bytes", 0, 20000, Due.OUT_OF_RANGE, () -> full(7), (x, bytes) -> x.quota(asked, bytes));
        }
        for (int bytes : new int[] {-1, 20001}) {
            Due.refuses("no such tenant, and " + bytes, Due.NO_SUCH, () -> full(7), x -> x.quota(4, bytes));
            Due.refuses("no such tenant, and " + bytes, Due.NO_SUCH, () -> full(7), x -> x.quota(-1, bytes));
        }
    }

    private static void promise19Tenant() {
        ShardHarbour x = full(700);
        Due.is("bytes of 0", x.tenant(0, 0), 150);
        Due.is("bytes of 1", x.tenant(1, 0), 10);
        Due.is("quota of 0", x.tenant(0, 1), 700);
        Due.is("quota of 1", x.tenant(1, 1), 1000);
        Due.is("bill of 0", x.tenant(0, 2), 0);
        x.pass(3);
        Due.is("bill of 0", x.tenant(0, 2), 450);
        Due.is("bill of 1", x.tenant(1, 2), 30);
        Due.is("bill of 2", x.tenant(2, 2), 0);
        x.write(1, 1, 20);
        Due.is("0 lost what 1 wrote over", x.tenant(0, 0), 50);
        Due.is("1 has it", x.tenant(1, 0), 30);
        x.take(2);
        x.pass(1);
        Due.is("0 has nothing", x.tenant(0, 0), 0);
        Due.is("its bill stays", x.tenant(0, 2), 450);
        Due.is("bill of 1", x.tenant(1, 2), 60);
    }

    private static void promise19Ranges() {
        for (int what = 0; what <= 2; what++) {
            int asked = what;
            Due.range("tenant", 0, 3, Due.NO_SUCH, () -> full(7), (x, tenant) -> x.tenant(tenant, asked));
        }
        Due.range("what of the first", 0, 2, Due.OUT_OF_RANGE, () -> full(7), (x, what) -> x.tenant(0, what));
        Due.range("what of the last", 0, 2, Due.OUT_OF_RANGE, () -> full(7), (x, what) -> x.tenant(3, what));
        for (int what : new int[] {-1, 3}) {
            Due.refuses("no such tenant, what " + what, Due.NO_SUCH, () -> full(7), x -> x.tenant(4, what));
        }
    }
}
