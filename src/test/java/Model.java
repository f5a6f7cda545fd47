import java.util.ArrayList;
import java.util.HashSet;
import java.util.List;
import java.util.Set;
import java.util.TreeMap;

/**
 * The document told a second time, word by word and without any skill: ticks are counted one by
 * one, states are copied whole, prefixes of texts are looked for among all the numbers there are.
 */
final class Model {
    static final int NONE = -1;

    private static final class Clock {
        int offsetBase, offsetTime, drift, base = 5, growth = 2, synchronization;

        int offset(int t) {
            return offsetBase + (int) Math.floor(drift * (double) (t - offsetTime) / 1000);
        }

        int uncertainty(int t) {
            return base + (int) Math.ceil(growth * (double) (t - synchronization) / 1000);
        }

        int reading(int t) {
            return t + offset(t);
        }

        int earliest(int t) {
            return reading(t) - uncertainty(t);
        }

        int latest(int t) {
            return reading(t) + uncertainty(t);
        }

        boolean sound(int t) {
            return earliest(t) <= t && latest(t) >= t;
        }

        Clock copy() {
            Clock c = new Clock();
            c.offsetBase = offsetBase;
            c.offsetTime = offsetTime;
            c.drift = drift;
            c.base = base;
            c.growth = growth;
            c.synchronization = synchronization;
            return c;
        }
    }

    private static final class Transaction {
        int server, state = 0, timestamp = NONE, requested = NONE, committed = NONE;
        TreeMap<Integer, Integer> writes = new TreeMap<>();
        TreeMap<Integer, Integer> reads = new TreeMap<>();

        Transaction copy() {
            Transaction t = new Transaction();
            t.server = server;
            t.state = state;
            t.timestamp = timestamp;
            t.requested = requested;
            t.committed = committed;
            t.writes = new TreeMap<>(writes);
            t.reads = new TreeMap<>(reads);
            return t;
        }
    }

    private static final class World {
        int now, floor, unsound;
        List<Clock> clocks = new ArrayList<>();
        List<List<Integer>> assigned = new ArrayList<>();
        List<TreeMap<Integer, Integer>> keys = new ArrayList<>();
        List<Transaction> transactions = new ArrayList<>();

        static World first() {
            World w = new World();
            for (int i = 0; i < 3; i++) {
                w.clocks.add(new Clock());
                w.assigned.add(new ArrayList<>());
            }
            for (int i = 0; i < 8; i++) {
                w.keys.add(new TreeMap<>());
                w.keys.get(i).put(0, 0);
            }
            return w;
        }

        World copy() {
            World w = new World();
            w.now = now;
            w.floor = floor;
            w.unsound = unsound;
            for (Clock c : clocks) w.clocks.add(c.copy());
            for (List<Integer> a : assigned) w.assigned.add(new ArrayList<>(a));
            for (TreeMap<Integer, Integer> k : keys) w.keys.add(new TreeMap<>(k));
            for (Transaction t : transactions) w.transactions.add(t.copy());
            return w;
        }

        int next(int server) {
            int greatest = 0;
            for (int a : assigned.get(server)) greatest = Math.max(greatest, a);
            return Math.max(clocks.get(server).latest(now), Math.max(1 + greatest, 1 + floor));
        }

        int safe() {
            int smallest = Integer.MAX_VALUE;
            for (int s = 0; s < 3; s++) smallest = Math.min(smallest, next(s) - 1);
            for (Transaction t : transactions) if (t.state == 1) smallest = Math.min(smallest, t.timestamp - 1);
            return smallest;
        }

        int mark(int key) {
            int greatest = 0;
            for (Transaction t : transactions) {
                if (t.state == 2 && t.reads.containsKey(key)) greatest = Math.max(greatest, t.timestamp);
            }
            return greatest;
        }

        int request(Transaction t) {
            for (int key : t.reads.keySet()) {
                if (!keys.get(key).lastKey().equals(t.reads.get(key))) return -2;
            }
            for (Transaction w : transactions) {
                if (w.state != 1) continue;
                for (int key = 0; key < 8; key++) {
                    boolean touches = t.reads.containsKey(key) || t.writes.containsKey(key);
                    if (w.writes.containsKey(key) && touches) return -3;
                    if (w.reads.containsKey(key) && t.writes.containsKey(key)) return -3;
                }
            }
            int greatest = next(t.server);
            for (int key : t.reads.keySet()) greatest = Math.max(greatest, 1 + keys.get(key).lastKey());
            for (int key : t.writes.keySet()) {
                greatest = Math.max(greatest, Math.max(1 + keys.get(key).lastKey(), 1 + mark(key)));
            }
            return greatest;
        }

        int doCommit(int number) {
            Transaction t = transactions.get(number);
            int outcome = request(t);
            if (outcome == -2) {
                t.state = 3;
            } else if (outcome != -3) {
                t.state = 1;
                t.timestamp = outcome;
                t.requested = now;
                assigned.get(t.server).add(outcome);
                if (!clocks.get(t.server).sound(now)) unsound++;
            }
            return outcome;
        }

        int tick() {
            now++;
            int committed = 0;
            for (Transaction t : transactions) {
                if (t.state == 1 && t.timestamp < clocks.get(t.server).earliest(now)) {
                    t.state = 2;
                    t.committed = now;
                    committed++;
                    for (int key : t.writes.keySet()) keys.get(key).put(t.timestamp, t.writes.get(key));
                    if (!clocks.get(t.server).sound(now)) unsound++;
                }
            }
            return committed;
        }

        int doRead(int number, int key) {
            Transaction t = transactions.get(number);
            if (t.writes.containsKey(key)) return t.writes.get(key);
            if (!t.reads.containsKey(key)) t.reads.put(key, keys.get(key).lastKey());
            return keys.get(key).get(t.reads.get(key));
        }
    }

    private World world = World.first();
    private final List<World> saved = new ArrayList<>();
    private final World[] slots = new World[2];
    private String text = "";

    private static void index(boolean good) {
        if (!good) throw new IndexOutOfBoundsException();
    }

    private static void argument(boolean good) {
        if (!good) throw new IllegalArgumentException();
    }

    private static void legal(boolean good) {
        if (!good) throw new IllegalStateException();
    }

    private static boolean in(int x, int least, int most) {
        return least <= x && x <= most;
    }

    private void server(int s) {
        index(in(s, 0, 2));
    }

    private Transaction transaction(int t) {
        index(in(t, 0, world.transactions.size() - 1));
        return world.transactions.get(t);
    }

    private void key(int k) {
        index(in(k, 0, 7));
    }

    private void keep(World w) {
        saved.add(w);
        if (saved.size() > 6) saved.remove(0);
    }

    private void keep() {
        keep(world.copy());
    }

    int begin(int s) {
        server(s);
        legal(world.transactions.size() < 40);
        keep();
        Transaction t = new Transaction();
        t.server = s;
        world.transactions.add(t);
        return world.transactions.size() - 1;
    }

    int read(int t, int k) {
        transaction(t);
        key(k);
        legal(transaction(t).state == 0);
        keep();
        return world.doRead(t, k);
    }

    int write(int t, int k, int v) {
        transaction(t);
        key(k);
        argument(in(v, 0, 9999));
        legal(transaction(t).state == 0);
        keep();
        transaction(t).writes.put(k, v);
        return transaction(t).writes.size();
    }

    int commit(int t) {
        transaction(t);
        legal(transaction(t).state == 0);
        World before = world.copy();
        int outcome = world.doCommit(t);
        if (outcome != -3) keep(before);
        return outcome;
    }

    int abort(int t) {
        transaction(t);
        legal(transaction(t).state == 0);
        keep();
        transaction(t).state = 3;
        return transaction(t).writes.size();
    }

    int advance(int n) {
        argument(in(n, 1, 1000));
        legal(world.now + n <= 1000000);
        keep();
        int committed = 0;
        for (int i = 0; i < n; i++) committed += world.tick();
        return committed;
    }

    int synchronize(int s, int o) {
        server(s);
        argument(in(o, -500, 500));
        keep();
        Clock c = world.clocks.get(s);
        int before = c.reading(world.now);
        c.offsetBase = o;
        c.offsetTime = world.now;
        c.synchronization = world.now;
        return c.reading(world.now) - before;
    }

    int setDrift(int s, int d) {
        server(s);
        argument(in(d, -100, 100));
        keep();
        Clock c = world.clocks.get(s);
        int before = c.drift;
        c.offsetBase = c.offset(world.now);
        c.offsetTime = world.now;
        c.drift = d;
        return before;
    }

    int setUncertainty(int s, int b, int g) {
        server(s);
        argument(in(b, 0, 500) && in(g, 0, 100));
        keep();
        Clock c = world.clocks.get(s);
        c.base = b;
        c.growth = g;
        return c.uncertainty(world.now);
    }

    int snapshotRead(int k, int x) {
        key(k);
        argument(x >= 0);
        legal(x <= world.safe());
        keep();
        world.floor = Math.max(world.floor, x);
        return world.keys.get(k).floorEntry(x).getValue();
    }

    int appendText(int c) {
        argument(in(c, 32, 126));
        legal(text.length() < 80);
        text += (char) c;
        return text.length();
    }

    int clearText() {
        int before = text.length();
        text = "";
        return before;
    }

    // ---- the numbers that may stand in each place of each command, as they are written

    private static final List<String> LETTERS = List.of("b", "r", "w", "c", "a", "t", "s");
    private static final List<List<Set<String>>> PLACES = List.of(
            List.of(numbers(0, 2)),
            List.of(numbers(0, 39), numbers(0, 7)),
            List.of(numbers(0, 39), numbers(0, 7), numbers(0, 9999)),
            List.of(numbers(0, 39)),
            List.of(numbers(0, 39)),
            List.of(numbers(1, 1000)),
            List.of(numbers(0, 2), numbers(-500, 500)));
    private static final List<List<Set<String>>> BEGINNINGS = beginnings();

    private static Set<String> numbers(int least, int most) {
        Set<String> all = new HashSet<>();
        for (int n = least; n <= most; n++) all.add(String.valueOf(n));
        return all;
    }

    private static List<List<Set<String>>> beginnings() {
        List<List<Set<String>>> all = new ArrayList<>();
        for (List<Set<String>> places : PLACES) {
            List<Set<String>> ofCommand = new ArrayList<>();
            for (Set<String> place : places) {
                Set<String> prefixes = new HashSet<>();
                for (String n : place) for (int i = 0; i <= n.length(); i++) prefixes.add(n.substring(0, i));
                ofCommand.add(prefixes);
            }
            all.add(ofCommand);
        }
        return all;
    }

    private static boolean isCommand(String command, boolean orBeginning) {
        if (command.isEmpty()) return orBeginning;
        int kind = LETTERS.indexOf(command.substring(0, 1));
        if (kind < 0) return false;
        String[] parts = command.substring(1).split(",", -1);
        int places = PLACES.get(kind).size();
        if (parts.length > places || !orBeginning && parts.length < places) return false;
        for (int i = 0; i < parts.length; i++) {
            boolean whole = !orBeginning || i < parts.length - 1;
            if (!(whole ? PLACES : BEGINNINGS).get(kind).get(i).contains(parts[i])) return false;
        }
        return true;
    }

    private static boolean isText(String text, boolean orBeginning) {
        String[] commands = text.split(";", -1);
        for (int i = 0; i < commands.length; i++) {
            if (!isCommand(commands[i], orBeginning && i == commands.length - 1)) return false;
        }
        return true;
    }

    int errorPosition() {
        for (int i = 0; i < text.length(); i++) {
            if (!isText(text.substring(0, i + 1), true)) return i;
        }
        return isText(text, false) ? NONE : text.length();
    }

    int runText() {
        legal(errorPosition() == NONE);
        World before = world.copy();
        List<World> savedBefore = new ArrayList<>(saved);
        int executed = 0;
        try {
            for (String command : text.split(";")) {
                String[] parts = command.substring(1).split(",");
                int[] n = new int[3];
                for (int i = 0; i < parts.length; i++) n[i] = Integer.parseInt(parts[i]);
                switch (command.charAt(0)) {
                    case 'b' -> begin(n[0]);
                    case 'r' -> read(n[0], n[1]);
                    case 'w' -> write(n[0], n[1], n[2]);
                    case 'c' -> commit(n[0]);
                    case 'a' -> abort(n[0]);
                    case 't' -> advance(n[0]);
                    default -> synchronize(n[0], n[1]);
                }
                executed++;
            }
        } catch (IndexOutOfBoundsException | IllegalStateException end) {
            // the command that would throw ends the run
        }
        saved.clear();
        saved.addAll(savedBefore);
        keep(before);
        return executed;
    }

    int undo() {
        legal(!saved.isEmpty());
        world = saved.remove(saved.size() - 1);
        return saved.size();
    }

    int save(int slot) {
        index(in(slot, 0, 1));
        slots[slot] = world.copy();
        return world.now;
    }

    int restore(int slot) {
        index(in(slot, 0, 1));
        legal(slots[slot] != null);
        keep();
        world = slots[slot].copy();
        return world.now;
    }

    int trueTime() {
        return world.now;
    }

    int reading(int s) {
        server(s);
        return world.clocks.get(s).reading(world.now);
    }

    int earliest(int s) {
        server(s);
        return world.clocks.get(s).earliest(world.now);
    }

    int latest(int s) {
        server(s);
        return world.clocks.get(s).latest(world.now);
    }

    boolean isSound(int s) {
        server(s);
        return world.clocks.get(s).sound(world.now);
    }

    int nextTimestamp(int s) {
        server(s);
        return world.next(s);
    }

    int transactions() {
        return world.transactions.size();
    }

    int state(int t) {
        return transaction(t).state;
    }

    int timestamp(int t) {
        return transaction(t).timestamp;
    }

    int requestTime(int t) {
        return transaction(t).requested;
    }

    int commitTime(int t) {
        return transaction(t).committed;
    }

    int bufferedValue(int t, int k) {
        transaction(t);
        key(k);
        return transaction(t).writes.getOrDefault(k, NONE);
    }

    int recordedTimestamp(int t, int k) {
        transaction(t);
        key(k);
        return transaction(t).reads.getOrDefault(k, NONE);
    }

    int ifCommitted(int t) {
        return transaction(t).state == 0 ? world.copy().doCommit(t) : NONE;
    }

    int ticksToCommit(int t) {
        if (transaction(t).state == 2) return 0;
        if (transaction(t).state != 1) return NONE;
        Clock c = world.clocks.get(transaction(t).server);
        for (int n = 1; n <= 10000; n++) {
            if (transaction(t).timestamp < c.earliest(world.now + n)) return n;
        }
        return NONE;
    }

    int versions(int k) {
        key(k);
        return world.keys.get(k).size();
    }

    int versionTimestamp(int k, int i) {
        key(k);
        index(in(i, 0, world.keys.get(k).size() - 1));
        return new ArrayList<>(world.keys.get(k).keySet()).get(i);
    }

    int valueAt(int k, int x) {
        key(k);
        argument(x >= 0);
        return world.keys.get(k).floorEntry(x).getValue();
    }

    int replayedValueAt(int k, int x) {
        key(k);
        argument(x >= 0);
        List<Transaction> order = new ArrayList<>();
        for (Transaction t : world.transactions) if (t.state == 2 && t.timestamp <= x) order.add(t);
        order.sort((a, b) -> Integer.compare(a.timestamp, b.timestamp));
        int value = 0;
        for (Transaction t : order) value = t.writes.getOrDefault(k, value);
        return value;
    }

    int waitingWriter(int k) {
        key(k);
        for (int t = 0; t < world.transactions.size(); t++) {
            if (transaction(t).state == 1 && transaction(t).writes.containsKey(k)) return t;
        }
        return NONE;
    }

    int readerMark(int k) {
        key(k);
        return world.mark(k);
    }

    int safeTime() {
        return world.safe();
    }

    int readFloor() {
        return world.floor;
    }

    int ticksUntilSafe(int x) {
        argument(x >= 0);
        World w = world.copy();
        for (int n = 0; n <= 10000; n++) {
            if (x <= w.safe()) return n;
            w.tick();
        }
        return NONE;
    }

    int countInState(int s) {
        argument(in(s, 0, 3));
        int count = 0;
        for (Transaction t : world.transactions) if (t.state == s) count++;
        return count;
    }

    int totalWait() {
        int sum = 0;
        for (Transaction t : world.transactions) if (t.state == 2) sum += t.committed - t.requested;
        return sum;
    }

    int unsoundUses() {
        return world.unsound;
    }

    int inversions() {
        int count = 0;
        for (Transaction a : world.transactions) {
            for (Transaction b : world.transactions) {
                if (a.state == 2 && (b.state == 1 || b.state == 2) && a.committed <= b.requested
                        && a.timestamp >= b.timestamp) {
                    count++;
                }
            }
        }
        return count;
    }

    int savedStates() {
        return saved.size();
    }

    int textLength() {
        return text.length();
    }
}
