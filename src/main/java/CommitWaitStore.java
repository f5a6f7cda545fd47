/**
 * A transactional key-value store that takes commit timestamps from clocks with bounded
 * uncertainty, and that delays each commit until its timestamp has surely passed.
 *
 * The methods of the face test their arguments, save the state where the call is undoable,
 * and leave the rest to the state. Every row is made once, by the constructor.
 */
public final class CommitWaitStore {
    public static final int NONE = -1;
    public static final int CONFLICT = -2;
    public static final int LOCKED = -3;
    public static final int OPEN = 0, WAITING = 1, COMMITTED = 2, ABORTED = 3;

    private static final int SERVERS = 3;
    private static final int KEYS = 8;
    private static final int TRANSACTIONS = 40;
    private static final int GREATEST_VALUE = 9999;
    private static final int GREATEST_TIME = 1000000;
    private static final int GREATEST_ADVANCE = 1000;
    private static final int GREATEST_OFFSET = 500;
    private static final int GREATEST_DRIFT = 100;
    private static final int GREATEST_BASE_UNCERTAINTY = 500;
    private static final int GREATEST_GROWTH = 100;
    private static final int GREATEST_FORESIGHT = 10000;
    private static final int SLOTS = 2;

    private final State state = new State();
    private final SavedStates saved = new SavedStates();
    private final State[] slots = new State[SLOTS];
    private final boolean[] slotHoldsState = new boolean[SLOTS];
    private final Text text = new Text();

    public CommitWaitStore() {
        for (int slot = 0; slot < SLOTS; slot++) {
            slots[slot] = new State();
        }
    }

    // ---- transactions

    public int begin(int server) throws IndexOutOfBoundsException, IllegalStateException {
        requireServer(server);
        if (!state.canBegin()) {
            throw new IllegalStateException("40 transactions have begun");
        }
        saved.push(state);
        return state.beginAt(server);
    }

    public int read(int transaction, int key) throws IndexOutOfBoundsException, IllegalStateException {
        requireTransaction(transaction);
        requireKey(key);
        requireOpen(transaction);
        saved.push(state);
        return state.readKey(transaction, key);
    }

    public int write(int transaction, int key, int value)
            throws IndexOutOfBoundsException, IllegalArgumentException, IllegalStateException {
        requireTransaction(transaction);
        requireKey(key);
        requireRange(value, 0, GREATEST_VALUE);
        requireOpen(transaction);
        saved.push(state);
        return state.writeKey(transaction, key, value);
    }

    public int commit(int transaction) throws IndexOutOfBoundsException, IllegalStateException {
        requireTransaction(transaction);
        requireOpen(transaction);
        int outcome = state.commitOutcome(transaction);
        if (outcome != LOCKED) {
            saved.push(state);
            state.carryOut(outcome, transaction);
        }
        return outcome;
    }

    public int abort(int transaction) throws IndexOutOfBoundsException, IllegalStateException {
        requireTransaction(transaction);
        requireOpen(transaction);
        saved.push(state);
        return state.makeAborted(transaction);
    }

    // ---- time and clocks

    public int advance(int ticks) throws IllegalArgumentException, IllegalStateException {
        requireRange(ticks, 1, GREATEST_ADVANCE);
        if (!state.canAdvance(ticks)) {
            throw new IllegalStateException("the true time would become greater than 1000000");
        }
        saved.push(state);
        return state.advanceBy(ticks);
    }

    public int synchronize(int server, int offset) throws IndexOutOfBoundsException, IllegalArgumentException {
        requireServer(server);
        requireRange(offset, -GREATEST_OFFSET, GREATEST_OFFSET);
        saved.push(state);
        return state.synchronizeClock(server, offset);
    }

    public int setDrift(int server, int drift) throws IndexOutOfBoundsException, IllegalArgumentException {
        requireServer(server);
        requireRange(drift, -GREATEST_DRIFT, GREATEST_DRIFT);
        saved.push(state);
        return state.servers[server].changeDrift(drift, state.trueTime);
    }

    public int setUncertainty(int server, int base, int growth)
            throws IndexOutOfBoundsException, IllegalArgumentException {
        requireServer(server);
        requireRange(base, 0, GREATEST_BASE_UNCERTAINTY);
        requireRange(growth, 0, GREATEST_GROWTH);
        saved.push(state);
        state.servers[server].changeUncertainty(base, growth);
        return state.servers[server].uncertaintyAt(state.trueTime);
    }

    // ---- snapshot reads

    public int snapshotRead(int key, int timestamp)
            throws IndexOutOfBoundsException, IllegalArgumentException, IllegalStateException {
        requireKey(key);
        requireNotNegative(timestamp);
        if (timestamp > state.safeTimeNow()) {
            throw new IllegalStateException("the timestamp is greater than the safe time");
        }
        saved.push(state);
        state.readFloor = Math.max(state.readFloor, timestamp);
        return state.versions.valueOf(key, timestamp);
    }

    // ---- texts

    public int appendText(int character) throws IllegalArgumentException, IllegalStateException {
        requireRange(character, Text.FIRST_CHARACTER, Text.LAST_CHARACTER);
        if (text.isFull()) {
            throw new IllegalStateException("the text has 80 characters");
        }
        text.append((char) character);
        return text.length;
    }

    public int clearText() {
        int before = text.length;
        text.length = 0;
        return before;
    }

    public int errorPosition() {
        return text.findError();
    }

    public int runText() throws IllegalStateException {
        if (text.findError() != NONE) {
            throw new IllegalStateException("the text is not valid");
        }
        saved.push(state);
        text.rewind();
        // A command takes more than one character, so the length is a bound that is never reached.
        int executed = 0;
        while (executed < text.length && text.readNextCommand() && executeCommand()) {
            executed++;
        }
        return executed;
    }

    /** Executes the command that was read last, unless its method would throw: then answers false. */
    private boolean executeCommand() {
        int first = text.arguments[0];
        if (!canExecute(first)) {
            return false;
        }
        switch (text.letter) {
            case 'b':
                state.beginAt(first);
                break;
            case 'r':
                state.readKey(first, text.arguments[1]);
                break;
            case 'w':
                state.writeKey(first, text.arguments[1], text.arguments[2]);
                break;
            case 'c':
                state.carryOut(state.commitOutcome(first), first);
                break;
            case 'a':
                state.makeAborted(first);
                break;
            case 't':
                state.advanceBy(first);
                break;
            default:
                state.synchronizeClock(first, text.arguments[1]);
                break;
        }
        return true;
    }

    /** A valid text keeps all numbers in range, so only the state can be in a command's way. */
    private boolean canExecute(int first) {
        switch (text.letter) {
            case 'b':
                return state.canBegin();
            case 't':
                return state.canAdvance(first);
            case 's':
                return true;
            default:
                return state.transactions.isOpen(first);
        }
    }

    // ---- undo and slots

    public int undo() throws IllegalStateException {
        if (saved.count == 0) {
            throw new IllegalStateException("there is no saved state");
        }
        saved.popInto(state);
        return saved.count;
    }

    public int save(int slot) throws IndexOutOfBoundsException {
        requireSlot(slot);
        slots[slot].copyFrom(state);
        slotHoldsState[slot] = true;
        return state.trueTime;
    }

    public int restore(int slot) throws IndexOutOfBoundsException, IllegalStateException {
        requireSlot(slot);
        if (!slotHoldsState[slot]) {
            throw new IllegalStateException("the slot is empty");
        }
        saved.push(state);
        state.copyFrom(slots[slot]);
        return state.trueTime;
    }

    // ---- queries about time and clocks

    public int trueTime() {
        return state.trueTime;
    }

    public int reading(int server) throws IndexOutOfBoundsException {
        requireServer(server);
        return state.trueTime + state.servers[server].offsetAt(state.trueTime);
    }

    public int earliest(int server) throws IndexOutOfBoundsException {
        requireServer(server);
        return state.servers[server].earliestAt(state.trueTime);
    }

    public int latest(int server) throws IndexOutOfBoundsException {
        requireServer(server);
        return state.servers[server].latestAt(state.trueTime);
    }

    public boolean isSound(int server) throws IndexOutOfBoundsException {
        requireServer(server);
        return state.servers[server].isSoundAt(state.trueTime);
    }

    public int nextTimestamp(int server) throws IndexOutOfBoundsException {
        requireServer(server);
        return state.nextTimestampOf(server);
    }

    // ---- queries about transactions

    public int transactions() {
        return state.transactions.begun;
    }

    public int state(int transaction) throws IndexOutOfBoundsException {
        requireTransaction(transaction);
        return state.transactions.status[transaction];
    }

    public int timestamp(int transaction) throws IndexOutOfBoundsException {
        requireTransaction(transaction);
        return state.transactions.timestamp[transaction];
    }

    public int requestTime(int transaction) throws IndexOutOfBoundsException {
        requireTransaction(transaction);
        return state.transactions.requestTime[transaction];
    }

    public int commitTime(int transaction) throws IndexOutOfBoundsException {
        requireTransaction(transaction);
        return state.transactions.commitTime[transaction];
    }

    public int bufferedValue(int transaction, int key) throws IndexOutOfBoundsException {
        requireTransaction(transaction);
        requireKey(key);
        return state.transactions.bufferOf(transaction, key);
    }

    public int recordedTimestamp(int transaction, int key) throws IndexOutOfBoundsException {
        requireTransaction(transaction);
        requireKey(key);
        int version = state.transactions.recordedVersion(transaction, key);
        return version == NONE ? NONE : state.versions.timestampOf(key, version);
    }

    public int ifCommitted(int transaction) throws IndexOutOfBoundsException {
        requireTransaction(transaction);
        return state.transactions.isOpen(transaction) ? state.commitOutcome(transaction) : NONE;
    }

    public int ticksToCommit(int transaction) throws IndexOutOfBoundsException {
        requireTransaction(transaction);
        if (state.transactions.status[transaction] == COMMITTED) {
            return 0;
        }
        if (state.transactions.status[transaction] != WAITING) {
            return NONE;
        }
        int ticks = state.ticksUntilCommitted(transaction, GREATEST_FORESIGHT);
        return ticks > GREATEST_FORESIGHT ? NONE : ticks;
    }

    // ---- queries about keys

    public int versions(int key) throws IndexOutOfBoundsException {
        requireKey(key);
        return state.versions.count[key];
    }

    public int versionTimestamp(int key, int index) throws IndexOutOfBoundsException {
        requireKey(key);
        if (index < 0 || index >= state.versions.count[key]) {
            throw new IndexOutOfBoundsException("there is no such version");
        }
        return state.versions.timestampOf(key, index);
    }

    public int valueAt(int key, int timestamp) throws IndexOutOfBoundsException, IllegalArgumentException {
        requireKey(key);
        requireNotNegative(timestamp);
        return state.versions.valueOf(key, timestamp);
    }

    public int replayedValueAt(int key, int timestamp) throws IndexOutOfBoundsException, IllegalArgumentException {
        requireKey(key);
        requireNotNegative(timestamp);
        return state.transactions.replay(key, timestamp);
    }

    public int waitingWriter(int key) throws IndexOutOfBoundsException {
        requireKey(key);
        return state.transactions.findWaitingWriter(key);
    }

    public int readerMark(int key) throws IndexOutOfBoundsException {
        requireKey(key);
        return state.transactions.greatestReaderTimestamp(key);
    }

    // ---- queries about the whole store

    public int safeTime() {
        return state.safeTimeNow();
    }

    public int readFloor() {
        return state.readFloor;
    }

    public int ticksUntilSafe(int timestamp) throws IllegalArgumentException {
        requireNotNegative(timestamp);
        int ticks = state.ticksUntilSafeAt(timestamp, GREATEST_FORESIGHT);
        return ticks > GREATEST_FORESIGHT ? NONE : ticks;
    }

    public int countInState(int state) throws IllegalArgumentException {
        requireRange(state, OPEN, ABORTED);
        return this.state.transactions.countWithStatus(state);
    }

    public int totalWait() {
        return state.transactions.sumOfWaits();
    }

    public int unsoundUses() {
        return state.unsoundUses;
    }

    public int inversions() {
        return state.transactions.countInversions();
    }

    public int savedStates() {
        return saved.count;
    }

    public int textLength() {
        return text.length;
    }

    // ---- tests of arguments

    private void requireServer(int server) {
        if (server < 0 || server >= SERVERS) {
            throw new IndexOutOfBoundsException("there is no such server");
        }
    }

    private void requireTransaction(int transaction) {
        if (transaction < 0 || transaction >= state.transactions.begun) {
            throw new IndexOutOfBoundsException("there is no such transaction");
        }
    }

    private void requireKey(int key) {
        if (key < 0 || key >= KEYS) {
            throw new IndexOutOfBoundsException("there is no such key");
        }
    }

    private void requireSlot(int slot) {
        if (slot < 0 || slot >= SLOTS) {
            throw new IndexOutOfBoundsException("there is no such slot");
        }
    }

    private void requireRange(int number, int least, int greatest) {
        if (number < least || number > greatest) {
            throw new IllegalArgumentException("a number is out of range");
        }
    }

    private void requireNotNegative(int timestamp) {
        if (timestamp < 0) {
            throw new IllegalArgumentException("the timestamp is negative");
        }
    }

    private void requireOpen(int transaction) {
        if (!state.transactions.isOpen(transaction)) {
            throw new IllegalStateException("the transaction is not open");
        }
    }

    /** A server: its clock, and the greatest commit timestamp that it has assigned. */
    private static final class Server {
        int offsetBase;
        int offsetTime;
        int drift;
        int baseUncertainty = 5;
        int growth = 2;
        int synchronizationTime;
        int greatestAssigned;

        void copyFrom(Server other) {
            offsetBase = other.offsetBase;
            offsetTime = other.offsetTime;
            drift = other.drift;
            baseUncertainty = other.baseUncertainty;
            growth = other.growth;
            synchronizationTime = other.synchronizationTime;
            greatestAssigned = other.greatestAssigned;
        }

        void setOffset(int offset, int time) {
            offsetBase = offset;
            offsetTime = time;
            synchronizationTime = time;
        }

        int changeDrift(int newDrift, int time) {
            int previous = drift;
            offsetBase = offsetAt(time);
            offsetTime = time;
            drift = newDrift;
            return previous;
        }

        void changeUncertainty(int newBase, int newGrowth) {
            baseUncertainty = newBase;
            growth = newGrowth;
        }

        int offsetAt(int time) {
            return offsetBase + Math.floorDiv(drift * (time - offsetTime), 1000);
        }

        int uncertaintyAt(int time) {
            // The two minus signs turn rounding down into rounding up.
            return baseUncertainty - Math.floorDiv(-growth * (time - synchronizationTime), 1000);
        }

        int earliestAt(int time) {
            return time + offsetAt(time) - uncertaintyAt(time);
        }

        int latestAt(int time) {
            return time + offsetAt(time) + uncertaintyAt(time);
        }

        boolean isSoundAt(int time) {
            // With the true time taken off, the earliest and the latest time lie about the offset.
            int offset = offsetAt(time);
            int uncertainty = uncertaintyAt(time);
            return offset - uncertainty <= 0 && offset + uncertainty >= 0;
        }

        /**
         * The number of ticks, from 0, after which the latest time is first greater than the
         * timestamp; limit + 1 if it takes more ticks than the limit. The latest time never falls,
         * and it rises by three a tick at most, so the ticks that are passed over can't be the ones.
         */
        int ticksUntilLatestPasses(int timestamp, int time, int limit) {
            // The timestamp may be any number here, so the difference needs a long.
            long ticks = 0;
            while (ticks <= limit) {
                long lacking = (long) timestamp - latestAt(time + (int) ticks);
                if (lacking < 0) {
                    return (int) ticks;
                }
                ticks += 1 + lacking / 3;
            }
            return limit + 1;
        }
    }

    /** The versions of the keys; a key has one at first, and each transaction can add one. */
    private static final class Versions {
        private static final int A_KEY = TRANSACTIONS + 1;

        final int[] count = new int[KEYS];
        private final int[] timestamps = new int[KEYS * A_KEY];
        private final int[] values = new int[KEYS * A_KEY];

        Versions() {
            for (int key = 0; key < KEYS; key++) {
                count[key] = 1;
            }
        }

        void copyFrom(Versions other) {
            for (int key = 0; key < KEYS; key++) {
                count[key] = other.count[key];
                System.arraycopy(other.timestamps, key * A_KEY, timestamps, key * A_KEY, count[key]);
                System.arraycopy(other.values, key * A_KEY, values, key * A_KEY, count[key]);
            }
        }

        /** Locks keep a key from having two waiting writers, so a new version is always the newest. */
        void add(int key, int timestamp, int value) {
            int place = key * A_KEY + count[key];
            timestamps[place] = timestamp;
            values[place] = value;
            count[key]++;
        }

        int newest(int key) {
            return count[key] - 1;
        }

        int timestampOf(int key, int version) {
            return timestamps[key * A_KEY + version];
        }

        int valueOfVersion(int key, int version) {
            return values[key * A_KEY + version];
        }

        int valueOf(int key, int timestamp) {
            int version = newest(key);
            while (version > 0 && timestampOf(key, version) > timestamp) {
                version--;
            }
            return valueOfVersion(key, version);
        }
    }

    /** The transactions that have begun, a row for each in every array. */
    private static final class Transactions {
        int begun;
        final int[] server = new int[TRANSACTIONS];
        final int[] status = new int[TRANSACTIONS];
        final int[] timestamp = new int[TRANSACTIONS];
        final int[] requestTime = new int[TRANSACTIONS];
        final int[] commitTime = new int[TRANSACTIONS];
        private final int[] buffered = new int[TRANSACTIONS * KEYS];
        private final int[] recorded = new int[TRANSACTIONS * KEYS];

        void copyFrom(Transactions other) {
            begun = other.begun;
            System.arraycopy(other.server, 0, server, 0, begun);
            System.arraycopy(other.status, 0, status, 0, begun);
            System.arraycopy(other.timestamp, 0, timestamp, 0, begun);
            System.arraycopy(other.requestTime, 0, requestTime, 0, begun);
            System.arraycopy(other.commitTime, 0, commitTime, 0, begun);
            System.arraycopy(other.buffered, 0, buffered, 0, begun * KEYS);
            System.arraycopy(other.recorded, 0, recorded, 0, begun * KEYS);
        }

        int add(int itsServer) {
            int transaction = begun;
            begun++;
            // The row may hold what an undone transaction left there.
            server[transaction] = itsServer;
            status[transaction] = OPEN;
            timestamp[transaction] = NONE;
            requestTime[transaction] = NONE;
            commitTime[transaction] = NONE;
            for (int key = 0; key < KEYS; key++) {
                bufferValue(transaction, key, NONE);
                recordVersion(transaction, key, NONE);
            }
            return transaction;
        }

        boolean isOpen(int transaction) {
            return transaction >= 0 && transaction < begun && status[transaction] == OPEN;
        }

        void bufferValue(int transaction, int key, int value) {
            buffered[transaction * KEYS + key] = value;
        }

        int bufferOf(int transaction, int key) {
            return buffered[transaction * KEYS + key];
        }

        boolean hasWritten(int transaction, int key) {
            return buffered[transaction * KEYS + key] != NONE;
        }

        void recordVersion(int transaction, int key, int version) {
            recorded[transaction * KEYS + key] = version;
        }

        int recordedVersion(int transaction, int key) {
            return recorded[transaction * KEYS + key];
        }

        boolean hasRead(int transaction, int key) {
            return recorded[transaction * KEYS + key] != NONE;
        }

        boolean hasTouched(int transaction, int key) {
            return hasRead(transaction, key) || hasWritten(transaction, key);
        }

        int writtenKeys(int transaction) {
            int written = 0;
            for (int key = 0; key < KEYS; key++) {
                if (hasWritten(transaction, key)) {
                    written++;
                }
            }
            return written;
        }

        boolean locks(int waiting, int requesting) {
            for (int key = 0; key < KEYS; key++) {
                if (hasWritten(waiting, key) && hasTouched(requesting, key)
                        || hasRead(waiting, key) && hasWritten(requesting, key)) {
                    return true;
                }
            }
            return false;
        }

        boolean isLockedOut(int requesting) {
            for (int transaction = 0; transaction < begun; transaction++) {
                if (status[transaction] == WAITING && locks(transaction, requesting)) {
                    return true;
                }
            }
            return false;
        }

        int findWaitingWriter(int key) {
            for (int transaction = 0; transaction < begun; transaction++) {
                if (status[transaction] == WAITING && hasWritten(transaction, key)) {
                    return transaction;
                }
            }
            return NONE;
        }

        int greatestReaderTimestamp(int key) {
            int greatest = 0;
            for (int transaction = 0; transaction < begun; transaction++) {
                if (status[transaction] == COMMITTED && hasRead(transaction, key)) {
                    greatest = Math.max(greatest, timestamp[transaction]);
                }
            }
            return greatest;
        }

        /**
         * Of all that a replay does to a key, its last replacement alone is seen at the end: that
         * of the writer with the greatest timestamp, and among equals of the one with the greatest
         * number.
         */
        int replay(int key, int until) {
            int value = 0;
            int last = 0;
            for (int transaction = 0; transaction < begun; transaction++) {
                if (status[transaction] == COMMITTED && hasWritten(transaction, key)
                        && timestamp[transaction] <= until && timestamp[transaction] >= last) {
                    last = timestamp[transaction];
                    value = bufferOf(transaction, key);
                }
            }
            return value;
        }

        int countWithStatus(int wanted) {
            int found = 0;
            for (int transaction = 0; transaction < begun; transaction++) {
                if (status[transaction] == wanted) {
                    found++;
                }
            }
            return found;
        }

        int sumOfWaits() {
            int sum = 0;
            for (int transaction = 0; transaction < begun; transaction++) {
                if (status[transaction] == COMMITTED) {
                    sum += commitTime[transaction] - requestTime[transaction];
                }
            }
            return sum;
        }

        int countInversions() {
            int found = 0;
            for (int first = 0; first < begun; first++) {
                for (int second = 0; second < begun; second++) {
                    if (areInverted(first, second)) {
                        found++;
                    }
                }
            }
            return found;
        }

        private boolean areInverted(int first, int second) {
            return status[first] == COMMITTED
                    && (status[second] == WAITING || status[second] == COMMITTED)
                    && commitTime[first] <= requestTime[second]
                    && timestamp[first] >= timestamp[second];
        }
    }

    /** The state: all that undo() and restore() bring back. */
    private static final class State {
        int trueTime;
        int readFloor;
        int unsoundUses;
        final Server[] servers = new Server[SERVERS];
        final Versions versions = new Versions();
        final Transactions transactions = new Transactions();

        State() {
            for (int server = 0; server < SERVERS; server++) {
                servers[server] = new Server();
            }
        }

        void copyFrom(State other) {
            trueTime = other.trueTime;
            readFloor = other.readFloor;
            unsoundUses = other.unsoundUses;
            for (int server = 0; server < SERVERS; server++) {
                servers[server].copyFrom(other.servers[server]);
            }
            versions.copyFrom(other.versions);
            transactions.copyFrom(other.transactions);
        }

        boolean canBegin() {
            return transactions.begun < TRANSACTIONS;
        }

        int beginAt(int server) {
            return transactions.add(server);
        }

        int readKey(int transaction, int key) {
            if (transactions.hasWritten(transaction, key)) {
                return transactions.bufferOf(transaction, key);
            }
            if (!transactions.hasRead(transaction, key)) {
                transactions.recordVersion(transaction, key, versions.newest(key));
            }
            return versions.valueOfVersion(key, transactions.recordedVersion(transaction, key));
        }

        int writeKey(int transaction, int key, int value) {
            transactions.bufferValue(transaction, key, value);
            return transactions.writtenKeys(transaction);
        }

        /** What a commit request returns now: the commit timestamp, CONFLICT or LOCKED. */
        int commitOutcome(int transaction) {
            if (hasConflict(transaction)) {
                return CONFLICT;
            }
            if (transactions.isLockedOut(transaction)) {
                return LOCKED;
            }
            int timestamp = nextTimestampOf(transactions.server[transaction]);
            for (int key = 0; key < KEYS; key++) {
                if (transactions.hasTouched(transaction, key)) {
                    timestamp = Math.max(timestamp, 1 + versions.timestampOf(key, versions.newest(key)));
                }
                if (transactions.hasWritten(transaction, key)) {
                    timestamp = Math.max(timestamp, 1 + transactions.greatestReaderTimestamp(key));
                }
            }
            return timestamp;
        }

        private boolean hasConflict(int transaction) {
            for (int key = 0; key < KEYS; key++) {
                if (transactions.hasRead(transaction, key)
                        && transactions.recordedVersion(transaction, key) != versions.newest(key)) {
                    return true;
                }
            }
            return false;
        }

        void carryOut(int outcome, int transaction) {
            if (outcome == CONFLICT) {
                makeAborted(transaction);
            } else if (outcome != LOCKED) {
                makeWaiting(transaction, outcome);
            }
        }

        int makeAborted(int transaction) {
            transactions.status[transaction] = ABORTED;
            return transactions.writtenKeys(transaction);
        }

        private void makeWaiting(int transaction, int timestamp) {
            int server = transactions.server[transaction];
            transactions.status[transaction] = WAITING;
            transactions.timestamp[transaction] = timestamp;
            transactions.requestTime[transaction] = trueTime;
            servers[server].greatestAssigned = timestamp;
            unsoundUses += servers[server].isSoundAt(trueTime) ? 0 : 1;
        }

        private void makeCommitted(int transaction, int time) {
            transactions.status[transaction] = COMMITTED;
            transactions.commitTime[transaction] = time;
            for (int key = 0; key < KEYS; key++) {
                if (transactions.hasWritten(transaction, key)) {
                    versions.add(key, transactions.timestamp[transaction],
                            transactions.bufferOf(transaction, key));
                }
            }
            unsoundUses += servers[transactions.server[transaction]].isSoundAt(time) ? 0 : 1;
        }

        boolean canAdvance(int ticks) {
            return trueTime + ticks <= GREATEST_TIME;
        }

        /**
         * One commit neither hastens nor delays another, and two never add to the same key, so each
         * waiting transaction can be followed through all the ticks by itself.
         */
        int advanceBy(int ticks) {
            int committed = 0;
            for (int transaction = 0; transaction < transactions.begun; transaction++) {
                if (transactions.status[transaction] == WAITING) {
                    int needed = ticksUntilCommitted(transaction, ticks);
                    if (needed <= ticks) {
                        makeCommitted(transaction, trueTime + needed);
                        committed++;
                    }
                }
            }
            trueTime += ticks;
            return committed;
        }

        /**
         * The number of ticks, from 1, after which a waiting transaction is first found behind its
         * commit timestamp; limit + 1 if it takes more ticks than the limit. The earliest time may
         * fall from one tick to the next, but it rises by two at most, so the ticks that are passed
         * over can't be the ones.
         */
        int ticksUntilCommitted(int transaction, int limit) {
            Server server = servers[transactions.server[transaction]];
            int ticks = 1;
            while (ticks <= limit) {
                int lacking = transactions.timestamp[transaction] - server.earliestAt(trueTime + ticks);
                if (lacking < 0) {
                    return ticks;
                }
                ticks += 1 + lacking / 2;
            }
            return limit + 1;
        }

        int synchronizeClock(int server, int offset) {
            int before = servers[server].offsetAt(trueTime);
            servers[server].setOffset(offset, trueTime);
            // The true time stands still here, so the reading changes as the offset does.
            return offset - before;
        }

        int nextTimestampOf(int server) {
            int assignedOrRead = Math.max(servers[server].greatestAssigned, readFloor);
            return Math.max(servers[server].latestAt(trueTime), 1 + assignedOrRead);
        }

        int safeTimeNow() {
            int safe = nextTimestampOf(0) - 1;
            for (int server = 1; server < SERVERS; server++) {
                safe = Math.min(safe, nextTimestampOf(server) - 1);
            }
            for (int transaction = 0; transaction < transactions.begun; transaction++) {
                if (transactions.status[transaction] == WAITING) {
                    safe = Math.min(safe, transactions.timestamp[transaction] - 1);
                }
            }
            return safe;
        }

        /**
         * The safe time reaches a timestamp when every server's next timestamp is above it and each
         * waiting transaction that holds it back has become committed; neither is ever lost again by
         * ticks alone, so the slowest of them tells. limit + 1 if it takes more ticks than the limit.
         */
        int ticksUntilSafeAt(int timestamp, int limit) {
            int slowest = 0;
            for (int server = 0; server < SERVERS; server++) {
                if (nextTimestampOf(server) <= timestamp) {
                    slowest = Math.max(slowest,
                            servers[server].ticksUntilLatestPasses(timestamp, trueTime, limit));
                }
            }
            for (int transaction = 0; transaction < transactions.begun; transaction++) {
                if (transactions.status[transaction] == WAITING
                        && transactions.timestamp[transaction] <= timestamp) {
                    slowest = Math.max(slowest, ticksUntilCommitted(transaction, limit));
                }
            }
            return slowest;
        }
    }

    /** The states saved for undo(), in a ring, so that the seventh overwrites the oldest. */
    private static final class SavedStates {
        private static final int MOST = 6;

        int count;
        private int next;
        private final State[] ring = new State[MOST];

        SavedStates() {
            for (int place = 0; place < MOST; place++) {
                ring[place] = new State();
            }
        }

        void push(State state) {
            ring[next].copyFrom(state);
            next = (next + 1) % MOST;
            count = Math.min(count + 1, MOST);
        }

        /** To be called only while a state is saved. */
        void popInto(State state) {
            next = (next + MOST - 1) % MOST;
            count--;
            state.copyFrom(ring[next]);
        }
    }

    /** The text buffer, and a reader that goes through its commands. */
    private static final class Text {
        static final int FIRST_CHARACTER = 32;
        static final int LAST_CHARACTER = 126;
        private static final int MOST_CHARACTERS = 80;
        private static final String LETTERS = "brwcats";

        int length;
        int letter;
        final int[] arguments = new int[3];
        private int position;
        private final char[] characters = new char[MOST_CHARACTERS];

        boolean isFull() {
            return length >= MOST_CHARACTERS;
        }

        /** To be called only while the buffer is not full. */
        void append(char character) {
            characters[length] = character;
            length++;
        }

        void rewind() {
            position = 0;
        }

        /** NONE if the text is valid, otherwise its error position. */
        int findError() {
            rewind();
            // Each round but the last takes more than one character.
            for (int round = 0; round < length; round++) {
                if (!readCommand()) {
                    return position;
                }
                if (position == length) {
                    return NONE;
                }
                if (!take(';')) {
                    return position;
                }
            }
            return position;
        }

        boolean readNextCommand() {
            take(';');
            return readCommand();
        }

        /** Reads one command; if it can't, stands before the first character that does not fit. */
        private boolean readCommand() {
            if (position >= length || LETTERS.indexOf(characters[position]) < 0) {
                return false;
            }
            letter = characters[position];
            position++;
            return readArguments();
        }

        private boolean readArguments() {
            switch (letter) {
                case 'b':
                    return readNumber(0, 0, SERVERS - 1);
                case 't':
                    return readNumber(0, 1, GREATEST_ADVANCE);
                case 's':
                    return readNumber(0, 0, SERVERS - 1) && take(',') && readOffset();
                case 'r':
                    return readTransactionAndKey();
                case 'w':
                    return readTransactionAndKey() && take(',') && readNumber(2, 0, GREATEST_VALUE);
                default:
                    return readNumber(0, 0, TRANSACTIONS - 1);
            }
        }

        private boolean readTransactionAndKey() {
            return readNumber(0, 0, TRANSACTIONS - 1) && take(',') && readNumber(1, 0, KEYS - 1);
        }

        private boolean readOffset() {
            if (!take('-')) {
                return readNumber(1, 0, GREATEST_OFFSET);
            }
            if (!readNumber(1, 1, GREATEST_OFFSET)) {
                return false;
            }
            arguments[1] = -arguments[1];
            return true;
        }

        /** Takes digits as long as the number stays within the bounds; the least is 0 or 1. */
        private boolean readNumber(int argument, int least, int greatest) {
            int value = digitHere();
            if (value < least || value > greatest) {
                return false;
            }
            for (position++; position < length; position++) {
                int digit = digitHere();
                if (digit == NONE || value == 0 || 10 * value + digit > greatest) {
                    break;
                }
                value = 10 * value + digit;
            }
            arguments[argument] = value;
            return true;
        }

        private int digitHere() {
            if (position >= length || characters[position] < '0' || characters[position] > '9') {
                return NONE;
            }
            return characters[position] - '0';
        }

        private boolean take(char wanted) {
            if (position >= length || characters[position] != wanted) {
                return false;
            }
            position++;
            return true;
        }
    }
}
