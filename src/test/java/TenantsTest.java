/** Promises 4 (quota) and 19 (tenant). */
public final class TenantsTest {
    public static void main(String[] args) {
        promise4Quota();
        promise4WrongInputs();
        promise19Tenant();
        promise19WrongInputs();
        Due.end();
    }

    private static ShardHarbour withMachine() {
        ShardHarbour x = new ShardHarbour();
        x.machine(10000);
        return x;
    }

    private static void promise4Quota() {
        ShardHarbour x = withMachine();
        Due.is("quota(0, 150)", x.quota(0, 150), 1000);
        Due.is("quota(3, 20000)", x.quota(3, 20000), 1000);
        Due.is("quota(0, 150)", x.quota(0, 150), 150);
        Due.is("write up to the quota", x.write(1, 0, 100) + x.write(2, 0, 50), 250);
        Due.refuses("more than the quota", Due.NOT_NOW, () -> full(150), y -> y.write(3, 0, 1));
        Due.allows("one more allowed", () -> full(151), y -> y.write(3, 0, 1));
        Due.is("quota(0, 0)", x.quota(0, 0), 150);
        Due.is("the bytes stay", x.tenant(0, 0), 150);
        Due.refuses("less, but more than the quota", Due.NOT_NOW, () -> full(100), y -> y.write(1, 0, 51));
        Due.allows("less, up to the quota", () -> full(100), y -> y.write(1, 0, 50));
        Due.refuses("another's key counts", Due.NOT_NOW, () -> full(150), y -> y.write(9, 0, 1));
        Due.refuses("quota 0", Due.NOT_NOW, () -> full(0), y -> y.write(1, 0, 1));
    }

    /** The tenant 0 has 150 bytes, the tenant 1 has 10 at the key 9. */
    private static ShardHarbour full(int quota) {
        ShardHarbour x = withMachine();
        x.write(1, 0, 100);
        x.write(2, 0, 50);
        x.write(9, 1, 10);
        x.quota(0, quota);
        return x;
    }

    private static void promise4WrongInputs() {
        for (int tenant : new int[] {-1, 4, Integer.MIN_VALUE, Integer.MAX_VALUE}) {
            Due.refuses("quota(" + tenant + ", 1)", Due.NO_SUCH, ShardHarbour::new, x -> x.quota(tenant, 1));
            Due.refuses("quota(" + tenant + ", -1)", Due.NO_SUCH, ShardHarbour::new, x -> x.quota(tenant, -1));
        }
        for (int bytes : new int[] {-1, 20001, Integer.MIN_VALUE, Integer.MAX_VALUE}) {
            Due.refuses("quota(0, " + bytes + ")", Due.OUT_OF_RANGE, ShardHarbour::new, x -> x.quota(0, bytes));
        }
    }

    private static void promise19Tenant() {
        ShardHarbour x = full(700);
        Due.is("bytes of 0", x.tenant(0, 0), 150);
        Due.is("bytes of 1", x.tenant(1, 0), 10);
        Due.is("quota of 0", x.tenant(0, 1), 700);
        Due.is("quota of 1", x.tenant(1, 1), 1000);
        Due.is("bill of 0", x.tenant(0, 2), 0);
        x.pass(3);
        Due.is("bill of 0", x.tenant(0, 2), 450);
        Due.is("bill of 1", x.tenant(1, 2), 30);
        Due.is("bill of 2", x.tenant(2, 2), 0);
        x.write(1, 1, 20);
        Due.is("0 lost what 1 wrote over", x.tenant(0, 0), 50);
        Due.is("1 has it", x.tenant(1, 0), 30);
        x.take(2);
        x.pass(1);
        Due.is("0 has nothing", x.tenant(0, 0), 0);
        Due.is("its bill stays", x.tenant(0, 2), 450);
        Due.is("bill of 1", x.tenant(1, 2), 60);
    }

    private static void promise19WrongInputs() {
        for (int tenant : new int[] {-1, 4, Integer.MIN_VALUE, Integer.MAX_VALUE}) {
            Due.refuses("tenant(" + tenant + ", 0)", Due.NO_SUCH, ShardHarbour::new, x -> x.tenant(tenant, 0));
            Due.refuses("tenant(" + tenant + ", 3)", Due.NO_SUCH, ShardHarbour::new, x -> x.tenant(tenant, 3));
        }
        for (int what : new int[] {-1, 3, Integer.MIN_VALUE, Integer.MAX_VALUE}) {
            Due.refuses("tenant(3, " + what + ")", Due.OUT_OF_RANGE, ShardHarbour::new, x -> x.tenant(3, what));
        }
    }
}
