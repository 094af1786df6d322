/**
 * A store split over machines: shards by ranges of keys that split and join, moves that copy key by
 * key and cut over, quotas and bills of tenants, heat that draws moves, and bills and places found
 * once more from the log.
 */
public final class ShardHarbour {
    /** There is none. */
    public static final int NONE = -1;

    private static final int KEYS = 1000;
    private static final int MOST_BYTES_AT_KEY = 100;
    private static final int TENANTS = 4;
    private static final int FIRST_QUOTA = 1000;
    private static final int MOST_QUOTA = 20000;
    private static final int MOST_MACHINES = 6;
    private static final int LEAST_ROOM = 100;
    private static final int MOST_ROOM = 10000;
    private static final int MOST_SHARDS = 16;
    private static final int MOST_CHANGES = 600;
    private static final int MOST_LIMIT = 1000;
    private static final int MOST_HOURS_AT_ONCE = 200;
    private static final int LAST_HOUR = 2000;
    private static final int COPIED_AN_HOUR = 50;

    /** Stands where there is no machine, so that no reference to a machine is ever null. */
    private final Machine nowhere;

    private final int[] bytesAt;
    private final int[] tenantAt;
    private final Tenant[] tenants;
    private final Machine[] machines;
    private int machineCount;
    /** Rows behind shardCount are spare ones, kept for the next split; none of them moves. */
    private final Shard[] shards;
    private int shardCount;
    private int hour;
    private int heatLimit;
    private int movesDone;
    private int movesFailed;
    private Change lastChange;
    private int changeCount;
    private CutOver lastCutOver;

    public ShardHarbour() {
        nowhere = new Machine(NONE);
        bytesAt = new int[KEYS];
        tenantAt = new int[KEYS];
        for (int key = 0; key < KEYS; key++) {
            tenantAt[key] = NONE;
        }
        tenants = new Tenant[TENANTS];
        for (int i = 0; i < TENANTS; i++) {
            tenants[i] = new Tenant();
        }
        machines = new Machine[MOST_MACHINES];
        for (int i = 0; i < MOST_MACHINES; i++) {
            machines[i] = new Machine(i);
        }
        shards = new Shard[MOST_SHARDS];
        for (int i = 0; i < MOST_SHARDS; i++) {
            shards[i] = new Shard(nowhere);
        }
        shardCount = 1;
    }

    // ---- machines, tenants

    public int machine(int room) throws IllegalArgumentException, IllegalStateException {
        if (room < LEAST_ROOM || room > MOST_ROOM) {
            throw new IllegalArgumentException("the room is out of range");
        }
        if (machineCount >= MOST_MACHINES) {
            throw new IllegalStateException("there are as many machines as may be");
        }
        Machine added = machines[machineCount];
        added.room = room;
        added.isUp = true;
        machineCount++;
        if (added.number == 0) {
            settleAllShardsOn(added);
        }
        return added.number;
    }

    public boolean down(int machine, boolean isDown) throws IndexOutOfBoundsException {
        if (!isMachine(machine)) {
            throw new IndexOutOfBoundsException("there is no such machine");
        }
        Machine told = machines[machine];
        boolean wasDown = !told.isUp;
        told.isUp = !isDown;
        if (isDown) {
            failMovesOf(told);
        }
        return wasDown;
    }

    public int quota(int tenant, int bytes) throws IndexOutOfBoundsException, IllegalArgumentException {
        if (!isTenant(tenant)) {
            throw new IndexOutOfBoundsException("there is no such tenant");
        }
        if (bytes < 0 || bytes > MOST_QUOTA) {
            throw new IllegalArgumentException("the bytes are out of range");
        }
        int before = tenants[tenant].quota;
        tenants[tenant].quota = bytes;
        return before;
    }

    public int limit(int heat) throws IllegalArgumentException {
        if (heat < 0 || heat > MOST_LIMIT) {
            throw new IllegalArgumentException("the heat is out of range");
        }
        int before = heatLimit;
        heatLimit = heat;
        return before;
    }

    // ---- what is done at keys

    public int write(int key, int tenant, int bytes)
            throws IndexOutOfBoundsException, IllegalArgumentException, IllegalStateException {
        if (!isKey(key) || !isTenant(tenant)) {
            throw new IndexOutOfBoundsException("there is no such key or tenant");
        }
        if (bytes < 1 || bytes > MOST_BYTES_AT_KEY) {
            throw new IllegalArgumentException("the bytes are out of range");
        }
        Shard shard = shards[numberOfShardWith(key)];
        if (!mayChange(shard) || !shard.home.hasRoomFor(bytes - bytesAt[key])
                || !hasQuotaFor(tenant, key, bytes)) {
            throw new IllegalStateException("this can't be written now");
        }
        change(shard, key, tenant, bytes);
        return tenants[tenant].bytes;
    }

    public int take(int key) throws IndexOutOfBoundsException, IllegalStateException {
        if (!isKey(key)) {
            throw new IndexOutOfBoundsException("there is no such key");
        }
        int bytes = bytesAt[key];
        Shard shard = shards[numberOfShardWith(key)];
        if (bytes == 0 || !mayChange(shard)) {
            throw new IllegalStateException("nothing can be taken away here now");
        }
        change(shard, key, NONE, 0);
        return bytes;
    }

    public int read(int key) throws IndexOutOfBoundsException, IllegalStateException {
        if (!isKey(key)) {
            throw new IndexOutOfBoundsException("there is no such key");
        }
        Shard shard = shards[numberOfShardWith(key)];
        if (!shard.home.isUp) {
            throw new IllegalStateException("no machine that is up has this key");
        }
        shard.heat++;
        return bytesAt[key];
    }

    // ---- shards, moves, hours

    public int split(int key) throws IndexOutOfBoundsException, IllegalStateException {
        if (!isKey(key) || key == 0) {
            throw new IndexOutOfBoundsException("no second shard can begin at this key");
        }
        int number = numberOfShardWith(key);
        Shard whole = shards[number];
        if (whole.first == key || whole.isMoving() || shardCount >= MOST_SHARDS) {
            throw new IllegalStateException("no shard can be split here now");
        }
        Shard second = shards[shardCount];
        for (int i = shardCount; i > number + 1; i--) {
            shards[i] = shards[i - 1];
        }
        shards[number + 1] = second;
        shardCount++;
        cutInTwo(whole, second, key);
        return number + 1;
    }

    public int join(int shard) throws IndexOutOfBoundsException, IllegalStateException {
        if (!isShard(shard)) {
            throw new IndexOutOfBoundsException("there is no such shard");
        }
        if (!isShard(shard + 1) || !canBeJoined(shards[shard], shards[shard + 1])) {
            throw new IllegalStateException("the shard can't be joined with a next one now");
        }
        Shard whole = shards[shard];
        Shard second = shards[shard + 1];
        whole.last = second.last;
        whole.bytes += second.bytes;
        whole.heat += second.heat;
        shardCount--;
        for (int i = shard + 1; i < shardCount; i++) {
            shards[i] = shards[i + 1];
        }
        shards[shardCount] = second;
        return shardCount;
    }

    public int move(int shard, int machine) throws IndexOutOfBoundsException, IllegalStateException {
        if (!isShard(shard) || !isMachine(machine)) {
            throw new IndexOutOfBoundsException("there is no such shard or machine");
        }
        Shard moved = shards[shard];
        Machine target = machines[machine];
        if (moved.home == target || moved.isMoving() || !moved.home.isUp || !target.isUp) {
            throw new IllegalStateException("the shard can't begin to move there now");
        }
        moved.aimAt(target);
        return moved.bytes;
    }

    public int callOff(int shard) throws IndexOutOfBoundsException, IllegalStateException {
        if (!isShard(shard)) {
            throw new IndexOutOfBoundsException("there is no such shard");
        }
        if (!shards[shard].isMoving()) {
            throw new IllegalStateException("the shard does not move");
        }
        int copied = shards[shard].copied;
        failMove(shards[shard]);
        return copied;
    }

    public int pass(int hours) throws IllegalArgumentException, IllegalStateException {
        if (hours < 1 || hours > MOST_HOURS_AT_ONCE) {
            throw new IllegalArgumentException("the hours are out of range");
        }
        if (hour + hours > LAST_HOUR) {
            throw new IllegalStateException("there are not so many hours left");
        }
        for (int i = 0; i < hours; i++) {
            passOneHour();
        }
        return hour;
    }

    // ---- what is asked

    public int hour() {
        return hour;
    }

    public int shards() {
        return shardCount;
    }

    public int shardOf(int key) throws IndexOutOfBoundsException {
        if (!isKey(key)) {
            throw new IndexOutOfBoundsException("there is no such key");
        }
        return numberOfShardWith(key);
    }

    public int shard(int shard, int what) throws IndexOutOfBoundsException, IllegalArgumentException {
        if (!isShard(shard)) {
            throw new IndexOutOfBoundsException("there is no such shard");
        }
        Shard asked = shards[shard];
        switch (what) {
            case 0:
                return asked.first;
            case 1:
                return asked.last;
            case 2:
                return asked.home.number;
            case 3:
                return asked.target.number;
            case 4:
                return asked.bytes;
            case 5:
                return asked.copied;
            case 6:
                return asked.heat;
            default:
                throw new IllegalArgumentException("what is asked is out of range");
        }
    }

    public int machineOf(int machine, int what) throws IndexOutOfBoundsException, IllegalArgumentException {
        if (!isMachine(machine)) {
            throw new IndexOutOfBoundsException("there is no such machine");
        }
        Machine asked = machines[machine];
        switch (what) {
            case 0:
                return asked.held;
            case 1:
                return asked.isUp ? 1 : 0;
            case 2:
                return heatOf(asked);
            case 3:
                return shardCountOn(asked);
            default:
                throw new IllegalArgumentException("what is asked is out of range");
        }
    }

    public int tenant(int tenant, int what) throws IndexOutOfBoundsException, IllegalArgumentException {
        if (!isTenant(tenant)) {
            throw new IndexOutOfBoundsException("there is no such tenant");
        }
        Tenant asked = tenants[tenant];
        switch (what) {
            case 0:
                return asked.bytes;
            case 1:
                return asked.quota;
            case 2:
                return asked.bill;
            default:
                throw new IllegalArgumentException("what is asked is out of range");
        }
    }

    public int billAnew(int tenant) throws IndexOutOfBoundsException {
        if (!isTenant(tenant)) {
            throw new IndexOutOfBoundsException("there is no such tenant");
        }
        int bill = 0;
        for (Change change = lastChange; change != null; change = change.earlier) {
            bill += change.moreBytesOf(tenant) * (hour - change.hour);
        }
        return bill;
    }

    public int whereAnew(int key) throws IndexOutOfBoundsException {
        if (!isKey(key)) {
            throw new IndexOutOfBoundsException("there is no such key");
        }
        for (CutOver cutOver = lastCutOver; cutOver != null; cutOver = cutOver.earlier) {
            if (cutOver.first <= key && key <= cutOver.last) {
                return cutOver.machine;
            }
        }
        return machineCount == 0 ? NONE : 0;
    }

    public int moves(boolean areDone) {
        return areDone ? movesDone : movesFailed;
    }

    // ---- what there is

    private boolean isKey(int key) {
        return key >= 0 && key < KEYS;
    }

    private boolean isTenant(int tenant) {
        return tenant >= 0 && tenant < TENANTS;
    }

    private boolean isMachine(int machine) {
        return machine >= 0 && machine < machineCount;
    }

    private boolean isShard(int shard) {
        return shard >= 0 && shard < shardCount;
    }

    /** For a key that there is; the first shard begins at 0, so the number is never below 0. */
    private int numberOfShardWith(int key) {
        int number = shardCount - 1;
        while (number > 0 && shards[number].first > key) {
            number--;
        }
        return number;
    }

    private int bytesBetween(int first, int last) {
        int bytes = 0;
        for (int key = first; key <= last && key < KEYS; key++) {
            bytes += bytesAt[key];
        }
        return bytes;
    }

    private int heatOf(Machine machine) {
        int heat = 0;
        for (int i = 0; i < shardCount; i++) {
            if (shards[i].home == machine) {
                heat += shards[i].heat;
            }
        }
        return heat;
    }

    private int shardCountOn(Machine machine) {
        int count = 0;
        for (int i = 0; i < shardCount; i++) {
            if (shards[i].home == machine) {
                count++;
            }
        }
        return count;
    }

    // ---- changes

    /** Without machines the home is nowhere, which is never up. */
    private boolean mayChange(Shard shard) {
        return shard.home.isUp && changeCount < MOST_CHANGES;
    }

    private boolean hasQuotaFor(int tenant, int key, int bytes) {
        int given = tenantAt[key] == tenant ? bytesAt[key] : 0;
        return tenants[tenant].bytes - given + bytes <= tenants[tenant].quota;
    }

    /** Puts bytes of a tenant at a key: NONE and 0 bytes to leave nothing there. */
    private void change(Shard shard, int key, int tenant, int bytes) {
        Change change = new Change(hour, lastChange);
        change.setBefore(tenantAt[key], bytesAt[key]);
        change.setBehind(tenant, bytes);
        lastChange = change;
        changeCount++;
        int more = bytes - bytesAt[key];
        addToTenant(tenantAt[key], -bytesAt[key]);
        addToTenant(tenant, bytes);
        tenantAt[key] = tenant;
        bytesAt[key] = bytes;
        shard.bytes += more;
        shard.home.held += more;
        shard.heat++;
        if (shard.hasCopied(key)) {
            changeCopy(shard, more);
        }
    }

    private void addToTenant(int tenant, int bytes) {
        if (isTenant(tenant)) {
            tenants[tenant].bytes += bytes;
        }
    }

    private void changeCopy(Shard shard, int more) {
        if (shard.target.hasRoomFor(more)) {
            shard.target.held += more;
            shard.copied += more;
        } else {
            failMove(shard);
        }
    }

    // ---- shards

    private void settleAllShardsOn(Machine machine) {
        for (int i = 0; i < shardCount; i++) {
            shards[i].home = machine;
        }
    }

    private void cutInTwo(Shard whole, Shard second, int key) {
        second.first = key;
        second.last = whole.last;
        second.home = whole.home;
        second.bytes = bytesBetween(second.first, second.last);
        second.heat = whole.heat - whole.heat / 2;
        whole.last = key - 1;
        whole.bytes -= second.bytes;
        whole.heat /= 2;
    }

    private boolean canBeJoined(Shard first, Shard second) {
        return first.home == second.home && !first.isMoving() && !second.isMoving();
    }

    // ---- moves

    private void failMovesOf(Machine machine) {
        for (int i = 0; i < shardCount; i++) {
            Shard shard = shards[i];
            if (shard.isMoving() && (shard.home == machine || shard.target == machine)) {
                failMove(shard);
            }
        }
    }

    private void failMove(Shard shard) {
        shard.target.held -= shard.copied;
        shard.aimAt(nowhere);
        movesFailed++;
    }

    private void cutOver(Shard shard) {
        shard.home.held -= shard.bytes;
        shard.home = shard.target;
        shard.aimAt(nowhere);
        movesDone++;
        lastCutOver = new CutOver(shard.first, shard.last, shard.home.number, lastCutOver);
    }

    private void copyForOneHour(Shard shard) {
        shard.mayCopy += COPIED_AN_HOUR;
        for (int key = shard.nextToCopy; key <= shard.last && key < KEYS; key++) {
            int bytes = bytesAt[key];
            if (bytes > shard.mayCopy) {
                return;
            }
            if (!shard.target.hasRoomFor(bytes)) {
                failMove(shard);
                return;
            }
            shard.takeCopy(bytes);
        }
        cutOver(shard);
    }

    // ---- hours

    private void passOneHour() {
        hour++;
        for (int i = 0; i < shardCount; i++) {
            if (shards[i].isMoving()) {
                copyForOneHour(shards[i]);
            }
        }
        for (int i = 0; i < TENANTS; i++) {
            tenants[i].bill += tenants[i].bytes;
        }
        if (heatLimit != 0) {
            drawMoveByHeat();
        }
        for (int i = 0; i < shardCount; i++) {
            shards[i].heat /= 2;
        }
    }

    private void drawMoveByHeat() {
        Machine hottest = hottestMachineUp();
        Machine coldest = coldestMachineUp();
        if (heatOf(hottest) - heatOf(coldest) < heatLimit || movesAwayFrom(hottest)) {
            return;
        }
        int number = hottestShardOn(hottest);
        if (isShard(number) && shards[number].heat > 0) {
            shards[number].aimAt(coldest);
        }
    }

    /** Nowhere if none is up. */
    private Machine hottestMachineUp() {
        Machine hottest = nowhere;
        for (int i = 0; i < machineCount; i++) {
            Machine machine = machines[i];
            if (machine.isUp && (hottest == nowhere || heatOf(machine) > heatOf(hottest))) {
                hottest = machine;
            }
        }
        return hottest;
    }

    /** Nowhere if none is up. */
    private Machine coldestMachineUp() {
        Machine coldest = nowhere;
        for (int i = 0; i < machineCount; i++) {
            Machine machine = machines[i];
            if (machine.isUp && (coldest == nowhere || heatOf(machine) < heatOf(coldest))) {
                coldest = machine;
            }
        }
        return coldest;
    }

    private boolean movesAwayFrom(Machine machine) {
        for (int i = 0; i < shardCount; i++) {
            if (shards[i].home == machine && shards[i].isMoving()) {
                return true;
            }
        }
        return false;
    }

    private int hottestShardOn(Machine machine) {
        int hottest = NONE;
        for (int i = 0; i < shardCount; i++) {
            if (shards[i].home == machine
                    && (hottest == NONE || shards[i].heat > shards[hottest].heat)) {
                hottest = i;
            }
        }
        return hottest;
    }

    private static final class Machine {
        private final int number;
        private int room;
        private boolean isUp;
        private int held;

        private Machine(int number) {
            this.number = number;
        }

        private boolean hasRoomFor(int more) {
            return held + more <= room;
        }
    }

    private static final class Tenant {
        private int bytes;
        private int quota;
        private int bill;

        private Tenant() {
            quota = FIRST_QUOTA;
        }
    }

    private static final class Shard {
        private int first;
        private int last;
        private Machine home;
        private Machine target;
        private int nextToCopy;
        private int mayCopy;
        private int copied;
        private int bytes;
        private int heat;

        private Shard(Machine nowhere) {
            last = KEYS - 1;
            home = nowhere;
            target = nowhere;
        }

        private boolean isMoving() {
            return target.number != NONE;
        }

        private boolean hasCopied(int key) {
            return isMoving() && key < nextToCopy;
        }

        /** Begins a move to a machine, or ends one if that is nowhere. */
        private void aimAt(Machine machine) {
            target = machine;
            nextToCopy = first;
            mayCopy = 0;
            copied = 0;
        }

        private void takeCopy(int bytesOfKey) {
            nextToCopy++;
            mayCopy -= bytesOfKey;
            copied += bytesOfKey;
            target.held += bytesOfKey;
        }
    }

    /** What write() or take() did at a key: an entry of their log, with the entry ahead of it. */
    private static final class Change {
        private final int hour;
        private final Change earlier;
        private int tenantBefore;
        private int bytesBefore;
        private int tenantBehind;
        private int bytesBehind;

        private Change(int hour, Change earlier) {
            this.hour = hour;
            this.earlier = earlier;
        }

        private void setBefore(int tenant, int bytes) {
            tenantBefore = tenant;
            bytesBefore = bytes;
        }

        private void setBehind(int tenant, int bytes) {
            tenantBehind = tenant;
            bytesBehind = bytes;
        }

        private int moreBytesOf(int tenant) {
            int behind = tenantBehind == tenant ? bytesBehind : 0;
            int before = tenantBefore == tenant ? bytesBefore : 0;
            return behind - before;
        }
    }

    /** A shard that cut over: an entry of their log, with the entry ahead of it. */
    private static final class CutOver {
        private final int first;
        private final int last;
        private final int machine;
        private final CutOver earlier;

        private CutOver(int first, int last, int machine, CutOver earlier) {
            this.first = first;
            this.last = last;
            this.machine = machine;
            this.earlier = earlier;
        }
    }
}
