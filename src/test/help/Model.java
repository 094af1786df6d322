import java.util.ArrayList;
import java.util.Arrays;
import java.util.List;
import java.util.Map;
import java.util.TreeMap;

/**
 * The document once more, without any sum that is kept: copies are maps of their own, and what a shard, a
 * machine or a tenant has is counted anew each time it is asked.
 */
final class Model {
    private static final class Part {
        int begin;
        int home = -1;
        int target = -1;
        int saved;
        int heat;
        TreeMap<Integer, Integer> copy = new TreeMap<>();
    }

    private final int[] owner = new int[1000];
    private final int[] size = new int[1000];
    private final int[] place = new int[1000];
    private final List<Part> parts = new ArrayList<>();
    private final List<Integer> rooms = new ArrayList<>();
    private final List<Boolean> ups = new ArrayList<>();
    private final int[] quotas = {1000, 1000, 1000, 1000};
    private final long[] bills = new long[4];
    private int hour;
    private int limit;
    private int changes;
    private int done;
    private int failed;

    Model() {
        parts.add(new Part());
        Arrays.fill(place, -1);
    }

    private static void there(boolean is) {
        if (!is) {
            throw new IndexOutOfBoundsException();
        }
    }

    private static void inRange(int value, int least, int most) {
        if (value < least || value > most) {
            throw new IllegalArgumentException();
        }
    }

    private static void now(boolean is) {
        if (!is) {
            throw new IllegalStateException();
        }
    }

    private static void key(int key) {
        there(0 <= key && key <= 999);
    }

    private void part(int part) {
        there(0 <= part && part < parts.size());
    }

    private void tenantThere(int tenant) {
        there(0 <= tenant && tenant <= 3);
    }

    private void machineThere(int machine) {
        there(0 <= machine && machine < rooms.size());
    }

    private int end(Part part) {
        int index = parts.indexOf(part);
        return index + 1 < parts.size() ? parts.get(index + 1).begin : 1000;
    }

    private int bytes(Part part) {
        int sum = 0;
        for (int key = part.begin; key < end(part); key++) {
            sum += size[key];
        }
        return sum;
    }

    private int copied(Part part) {
        int sum = 0;
        for (int bytes : part.copy.values()) {
            sum += bytes;
        }
        return sum;
    }

    private int held(int machine) {
        int sum = 0;
        for (Part part : parts) {
            sum += part.home == machine ? bytes(part) : 0;
            sum += part.target == machine ? copied(part) : 0;
        }
        return sum;
    }

    private int heat(int machine) {
        int sum = 0;
        for (Part part : parts) {
            sum += part.home == machine ? part.heat : 0;
        }
        return sum;
    }

    private int owned(int tenant) {
        int sum = 0;
        for (int key = 0; key < 1000; key++) {
            sum += size[key] > 0 && owner[key] == tenant ? size[key] : 0;
        }
        return sum;
    }

    private Part partOf(int key) {
        return parts.get(shardOf(key));
    }

    private void fail(Part part) {
        part.target = -1;
        part.copy.clear();
        failed++;
    }

    int machine(int room) {
        inRange(room, 100, 10000);
        now(rooms.size() < 6);
        rooms.add(room);
        ups.add(true);
        if (rooms.size() == 1) {
            parts.forEach(part -> part.home = 0);
            Arrays.fill(place, 0);
        }
        return rooms.size() - 1;
    }

    boolean down(int machine, boolean isDown) {
        machineThere(machine);
        boolean was = !ups.get(machine);
        ups.set(machine, !isDown);
        for (Part part : parts) {
            if (isDown && part.target >= 0 && (part.target == machine || part.home == machine)) {
                fail(part);
            }
        }
        return was;
    }

    int quota(int tenant, int bytes) {
        tenantThere(tenant);
        inRange(bytes, 0, 20000);
        int was = quotas[tenant];
        quotas[tenant] = bytes;
        return was;
    }

    int limit(int heat) {
        inRange(heat, 0, 1000);
        int was = limit;
        limit = heat;
        return was;
    }

    int write(int key, int tenant, int bytes) {
        key(key);
        tenantThere(tenant);
        inRange(bytes, 1, 100);
        Part part = partOf(key);
        now(part.home >= 0 && ups.get(part.home) && changes < 600);
        int oldOwner = owner[key];
        int oldSize = size[key];
        owner[key] = tenant;
        size[key] = bytes;
        if (held(part.home) > rooms.get(part.home) || owned(tenant) > quotas[tenant]) {
            owner[key] = oldOwner;
            size[key] = oldSize;
            throw new IllegalStateException();
        }
        changed(part, key);
        if (part.target >= 0 && held(part.target) > rooms.get(part.target)) {
            fail(part);
        }
        return owned(tenant);
    }

    private void changed(Part part, int key) {
        changes++;
        part.heat++;
        if (part.copy.containsKey(key)) {
            part.copy.put(key, size[key]);
        }
    }

    int take(int key) {
        key(key);
        Part part = partOf(key);
        now(size[key] > 0 && ups.get(part.home) && changes < 600);
        int was = size[key];
        size[key] = 0;
        changed(part, key);
        return was;
    }

    int read(int key) {
        key(key);
        Part part = partOf(key);
        now(part.home >= 0 && ups.get(part.home));
        part.heat++;
        return size[key];
    }

    int split(int key) {
        there(1 <= key && key <= 999);
        Part part = partOf(key);
        now(part.begin != key && part.target < 0 && parts.size() < 16);
        Part second = new Part();
        second.begin = key;
        second.home = part.home;
        second.heat = (part.heat + 1) / 2;
        part.heat = part.heat / 2;
        parts.add(parts.indexOf(part) + 1, second);
        return parts.indexOf(second);
    }

    int join(int shard) {
        part(shard);
        now(shard + 1 < parts.size());
        Part first = parts.get(shard);
        Part second = parts.get(shard + 1);
        now(first.home == second.home && first.target < 0 && second.target < 0);
        first.heat += second.heat;
        parts.remove(second);
        return parts.size();
    }

    int move(int shard, int machine) {
        part(shard);
        machineThere(machine);
        Part part = parts.get(shard);
        now(part.home != machine && part.target < 0 && ups.get(part.home) && ups.get(machine));
        begin(part, machine);
        return bytes(part);
    }

    private void begin(Part part, int machine) {
        part.target = machine;
        part.saved = 0;
        part.copy.clear();
    }

    int callOff(int shard) {
        part(shard);
        Part part = parts.get(shard);
        now(part.target >= 0);
        int was = copied(part);
        fail(part);
        return was;
    }

    int pass(int hours) {
        inRange(hours, 1, 200);
        now(hour + hours <= 2000);
        for (int i = 0; i < hours; i++) {
            hour++;
            for (Part part : parts) {
                if (part.target >= 0) {
                    copy(part);
                }
            }
            for (int tenant = 0; tenant < 4; tenant++) {
                bills[tenant] += owned(tenant);
            }
            draw();
            parts.forEach(part -> part.heat = part.heat / 2);
        }
        return hour;
    }

    private void copy(Part part) {
        part.saved += 50;
        int free = rooms.get(part.target) - held(part.target);
        for (int key = part.begin + part.copy.size(); key < end(part); key++) {
            if (size[key] > part.saved) {
                return;
            }
            if (size[key] > free) {
                fail(part);
                return;
            }
            part.saved -= size[key];
            free -= size[key];
            part.copy.put(key, size[key]);
        }
        for (Map.Entry<Integer, Integer> entry : part.copy.entrySet()) {
            place[entry.getKey()] = part.target;
        }
        part.home = part.target;
        part.target = -1;
        part.copy.clear();
        done++;
    }

    private void draw() {
        int hottest = -1;
        int coldest = -1;
        for (int machine = rooms.size() - 1; machine >= 0; machine--) {
            if (ups.get(machine)) {
                hottest = hottest < 0 || heat(machine) >= heat(hottest) ? machine : hottest;
                coldest = coldest < 0 || heat(machine) <= heat(coldest) ? machine : coldest;
            }
        }
        if (limit == 0 || hottest < 0 || heat(hottest) - heat(coldest) < limit) {
            return;
        }
        Part drawn = null;
        for (Part part : parts) {
            if (part.home == hottest) {
                if (part.target >= 0) {
                    return;
                }
                drawn = drawn == null || part.heat > drawn.heat ? part : drawn;
            }
        }
        if (drawn != null && drawn.heat > 0) {
            begin(drawn, coldest);
        }
    }

    int hour() {
        return hour;
    }

    int shards() {
        return parts.size();
    }

    int shardOf(int key) {
        key(key);
        int number = 0;
        for (Part part : parts) {
            number += part.begin <= key ? 1 : 0;
        }
        return number - 1;
    }

    int shard(int shard, int what) {
        part(shard);
        inRange(what, 0, 6);
        Part part = parts.get(shard);
        return new int[] {part.begin, end(part) - 1, part.home, part.target, bytes(part), copied(part),
            part.heat}[what];
    }

    int machineOf(int machine, int what) {
        machineThere(machine);
        inRange(what, 0, 3);
        int count = (int) parts.stream().filter(part -> part.home == machine).count();
        return new int[] {held(machine), ups.get(machine) ? 1 : 0, heat(machine), count}[what];
    }

    int tenant(int tenant, int what) {
        tenantThere(tenant);
        inRange(what, 0, 2);
        return new int[] {owned(tenant), quotas[tenant], (int) bills[tenant]}[what];
    }

    int billAnew(int tenant) {
        tenantThere(tenant);
        return (int) bills[tenant];
    }

    int whereAnew(int key) {
        key(key);
        return place[key];
    }

    int moves(boolean areDone) {
        return areDone ? done : failed;
    }
}
