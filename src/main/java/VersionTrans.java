/**
 * Triples in versions, written by transactions that see one version and their own writes.
 * The document DOC.md says what each call answers.
 */
public final class VersionTrans {
    private static final int TRIPLES = 200;
    private static final int GRAPHS = 4;
    private static final int TRIPLES_OF_A_GRAPH = 50;
    private static final int MOST_TRANSACTIONS = 60;

    // A transaction makes one version at most, and version 0 is there before them all.
    private static final int MOST_VERSIONS = MOST_TRANSACTIONS + 1;

    // A transaction ends once, and puts fewer than MOST_TRANSACTIONS others into the queue.
    private static final int MOST_TRIES = MOST_TRANSACTIONS * MOST_TRANSACTIONS;

    private static final int OPEN = 0;
    private static final int WAITING = 1;
    private static final int FAILED = 2;
    private static final int COMMITTED = 3;
    private static final int ABORTED = 4;

    private static final int BY_TRIPLE = 0;
    private static final int BY_GRAPH = 1;

    /** What a version tells of a triple; the rows of one triple are a chain from the newest on. */
    private static final class Row {
        final int version;
        final boolean there;
        Row older;

        Row(int version, boolean there, Row older) {
            this.version = version;
            this.there = there;
            this.older = older;
        }
    }

    private static final class Transaction {
        final int number;
        final boolean writer;
        final int sees;
        final boolean[] noted;
        int notes;
        int state;

        // The write that waits; it has a meaning only while the state is WAITING.
        Transaction waitsFor;
        int waitingTriple;
        boolean waitingThere;
        int beganToWait;

        Transaction nextInQueue;

        Transaction(int number, boolean writer, int sees) {
            this.number = number;
            this.writer = writer;
            this.sees = sees;
            this.noted = new boolean[GRAPHS];
            this.state = OPEN;
        }

        boolean hasEnded() {
            return state == COMMITTED || state == ABORTED;
        }
    }

    private final Transaction[] transactions;
    private int begun;

    private final Row[] newest;
    private int rowCount;
    private int latestVersion;
    private final int[] pins;

    // A triple has one holder at most, so a writer's own writes can stand beside the triples.
    private final Transaction[] holder;
    private final boolean[] written;

    private final int[] failedByTriple;
    private final int[] refusedForGraph;

    private final int[] ringMembers;
    private int ringSize;

    private Transaction firstInQueue;
    private Transaction lastInQueue;
    private int waitsBegun;

    public VersionTrans() {
        transactions = new Transaction[MOST_TRANSACTIONS];
        newest = new Row[TRIPLES];
        pins = new int[MOST_VERSIONS];
        holder = new Transaction[TRIPLES];
        written = new boolean[TRIPLES];
        failedByTriple = new int[TRIPLES];
        refusedForGraph = new int[GRAPHS];
        ringMembers = new int[MOST_TRANSACTIONS];
    }

    public int begin() throws IllegalStateException {
        return enter(true, latestVersion);
    }

    public int look(int version) throws IllegalArgumentException, IllegalStateException {
        requireVersion(version);
        return enter(false, version);
    }

    public int put(int transaction, int triple, boolean there)
            throws IllegalArgumentException, IllegalStateException {
        Transaction one = known(transaction);
        requireTriple(triple);
        requireOpenWriter(one);
        tryWrite(one, triple, there);
        retryQueued();
        return outcomeOfWrite(one);
    }

    public int note(int transaction, int graph)
            throws IllegalArgumentException, IllegalStateException {
        Transaction one = known(transaction);
        requireGraph(graph);
        requireOpenWriter(one);
        if (!one.noted[graph]) {
            one.noted[graph] = true;
            one.notes++;
        }
        return one.notes;
    }

    public boolean read(int transaction, int triple)
            throws IllegalArgumentException, IllegalStateException {
        Transaction one = known(transaction);
        requireTriple(triple);
        requireNotEnded(one);
        return holder[triple] == one ? written[triple] : isThere(triple, one.sees);
    }

    public boolean told(int version, int triple) throws IllegalArgumentException {
        requireVersion(version);
        requireTriple(triple);
        return isThere(triple, version);
    }

    public int commit(int transaction) throws IllegalArgumentException, IllegalStateException {
        Transaction one = known(transaction);
        requireNotEnded(one);
        requireNotWaiting(one);
        int answer = isRefused(one) ? giveUp(one) : makeVersion(one);
        retryQueued();
        return answer;
    }

    public int abort(int transaction) throws IllegalArgumentException, IllegalStateException {
        Transaction one = known(transaction);
        requireNotEnded(one);
        int writes = countOwnWrites(one);
        finish(one, ABORTED);
        retryQueued();
        return writes;
    }

    public int pin(int version) throws IllegalArgumentException {
        requireVersion(version);
        pins[version]++;
        return pins[version];
    }

    public int unpin(int version) throws IllegalArgumentException {
        requirePinned(version);
        pins[version]--;
        return pins[version];
    }

    public int free() {
        int kept = leastKept();
        int dropped = 0;
        for (int triple = 0; triple < TRIPLES; triple++) {
            dropped += dropOldRows(triple, kept);
        }
        rowCount -= dropped;
        return dropped;
    }

    public int rows() {
        return rowCount;
    }

    public int latest() {
        return latestVersion;
    }

    public int least() {
        return leastKept();
    }

    public int state(int transaction) throws IllegalArgumentException {
        return known(transaction).state;
    }

    public int waits(int transaction) throws IllegalArgumentException {
        Transaction other = known(transaction).waitsFor;
        return other == null ? -1 : other.number;
    }

    public int ring(int i) {
        return i >= 0 && i < ringSize ? ringMembers[i] : -1;
    }

    public int conflicts(int kind, int number) throws IllegalArgumentException {
        requireKind(kind);
        if (kind == BY_TRIPLE) {
            requireTriple(number);
            return failedByTriple[number];
        }
        requireGraph(number);
        return refusedForGraph[number];
    }

    // ---- what is thrown ----

    private Transaction known(int number) throws IllegalArgumentException {
        if (number < 0 || number >= begun) {
            throw new IllegalArgumentException("no such transaction");
        }
        return transactions[number];
    }

    private static void requireTriple(int triple) throws IllegalArgumentException {
        if (triple < 0 || triple >= TRIPLES) {
            throw new IllegalArgumentException("no such triple");
        }
    }

    private static void requireGraph(int graph) throws IllegalArgumentException {
        if (graph < 0 || graph >= GRAPHS) {
            throw new IllegalArgumentException("no such graph");
        }
    }

    private static void requireKind(int kind) throws IllegalArgumentException {
        if (kind != BY_TRIPLE && kind != BY_GRAPH) {
            throw new IllegalArgumentException("no such kind of conflict");
        }
    }

    private void requireVersion(int version) throws IllegalArgumentException {
        if (version < leastKept() || version > latestVersion) {
            throw new IllegalArgumentException("no such version, or one below the least kept");
        }
    }

    private void requirePinned(int version) throws IllegalArgumentException {
        if (version < 0 || version > latestVersion || pins[version] == 0) {
            throw new IllegalArgumentException("no such pinned version");
        }
    }

    private static void requireNotEnded(Transaction one) throws IllegalStateException {
        if (one.hasEnded()) {
            throw new IllegalStateException("the transaction has ended");
        }
    }

    private static void requireNotWaiting(Transaction one) throws IllegalStateException {
        if (one.state == WAITING) {
            throw new IllegalStateException("the transaction waits");
        }
    }

    private static void requireOpenWriter(Transaction one) throws IllegalStateException {
        if (!one.writer || one.state != OPEN) {
            throw new IllegalStateException("not an open writer");
        }
    }

    // ---- transactions ----

    private int enter(boolean writer, int version) throws IllegalStateException {
        if (begun >= MOST_TRANSACTIONS) {
            throw new IllegalStateException("no room for one more transaction");
        }
        int number = begun;
        transactions[number] = new Transaction(number, writer, version);
        begun++;
        return number;
    }

    private void finish(Transaction one, int state) {
        one.state = state;
        one.waitsFor = null;
        for (int triple = 0; triple < TRIPLES; triple++) {
            if (holder[triple] == one) {
                holder[triple] = null;
            }
        }
        queueThoseWaitingFor(one);
    }

    private int countOwnWrites(Transaction one) {
        int writes = 0;
        for (int triple = 0; triple < TRIPLES; triple++) {
            if (holder[triple] == one) {
                writes++;
            }
        }
        return writes;
    }

    // ---- commit ----

    private boolean isRefused(Transaction one) {
        return one.state == FAILED || leastChangedNote(one) >= 0;
    }

    /** Answers 0, as commit does for one that it aborts. */
    private int giveUp(Transaction one) {
        // One that failed by a triple is counted there already, whatever its graphs are like.
        if (one.state != FAILED) {
            int graph = leastChangedNote(one);
            if (graph >= 0) {
                refusedForGraph[graph]++;
            }
        }
        finish(one, ABORTED);
        return 0;
    }

    private int makeVersion(Transaction one) {
        int version = latestVersion + 1;
        if (addChanges(one, version) > 0) {
            latestVersion = version;
        } else {
            version = one.sees;
        }
        finish(one, COMMITTED);
        return version;
    }

    private int addChanges(Transaction one, int version) {
        int added = 0;
        for (int triple = 0; triple < TRIPLES; triple++) {
            if (holder[triple] == one && written[triple] != isThere(triple, one.sees)) {
                newest[triple] = new Row(version, written[triple], newest[triple]);
                added++;
            }
        }
        rowCount += added;
        return added;
    }

    private int leastChangedNote(Transaction one) {
        for (int graph = 0; graph < GRAPHS; graph++) {
            if (one.noted[graph] && isGraphChangedSince(graph, one.sees)) {
                return graph;
            }
        }
        return -1;
    }

    private boolean isGraphChangedSince(int graph, int version) {
        int first = graph * TRIPLES_OF_A_GRAPH;
        for (int triple = first; triple < first + TRIPLES_OF_A_GRAPH; triple++) {
            if (isChangedSince(triple, version)) {
                return true;
            }
        }
        return false;
    }

    // ---- versions and their rows ----

    private boolean isChangedSince(int triple, int version) {
        return newest[triple] != null && newest[triple].version > version;
    }

    private boolean isThere(int triple, int version) {
        Row row = newest[triple];
        while (row != null && row.version > version) {
            row = row.older;
        }
        return row != null && row.there;
    }

    private int leastKept() {
        int kept = latestVersion;
        for (int number = 0; number < begun; number++) {
            if (!transactions[number].hasEnded()) {
                kept = Math.min(kept, transactions[number].sees);
            }
        }
        for (int version = 0; version < kept; version++) {
            if (pins[version] > 0) {
                return version;
            }
        }
        return kept;
    }

    private int dropOldRows(int triple, int kept) {
        Row above = null;
        Row row = newest[triple];
        while (row != null && row.version > kept) {
            above = row;
            row = row.older;
        }
        if (row == null) {
            return 0;
        }
        int dropped = countRows(row.older);
        row.older = null;
        // Where there is no row, the triple is not there anyway.
        if (!row.there) {
            cutBelow(triple, above);
            dropped++;
        }
        return dropped;
    }

    private void cutBelow(int triple, Row above) {
        if (above == null) {
            newest[triple] = null;
        } else {
            above.older = null;
        }
    }

    private static int countRows(Row newestOne) {
        int count = 0;
        for (Row row = newestOne; row != null; row = row.older) {
            count++;
        }
        return count;
    }

    // ---- writes ----

    private void tryWrite(Transaction one, int triple, boolean there) {
        one.state = OPEN;
        one.waitsFor = null;
        if (isChangedSince(triple, one.sees)) {
            one.state = FAILED;
            failedByTriple[triple]++;
        } else if (holder[triple] != null && holder[triple] != one) {
            beginToWait(one, triple, there);
        } else {
            holder[triple] = one;
            written[triple] = there;
        }
    }

    private static int outcomeOfWrite(Transaction one) {
        switch (one.state) {
            case WAITING:
                return 0;
            case FAILED:
                return -1;
            case ABORTED:
                return -2;
            default:
                return 1;
        }
    }

    private void beginToWait(Transaction one, int triple, boolean there) {
        waitsBegun++;
        one.state = WAITING;
        one.waitsFor = holder[triple];
        one.waitingTriple = triple;
        one.waitingThere = there;
        one.beganToWait = waitsBegun;
        int size = sizeOfRingThrough(one);
        if (size > 0) {
            keepRing(one, size);
            finish(transactions[ringMembers[size - 1]], ABORTED);
        }
    }

    // ---- rings ----

    /** 0 when the way from one to those for which they wait does not come back to it. */
    private int sizeOfRingThrough(Transaction one) {
        Transaction next = one.waitsFor;
        for (int size = 1; size <= MOST_TRANSACTIONS && next != null; size++) {
            if (next == one) {
                return size;
            }
            next = next.waitsFor;
        }
        return 0;
    }

    private void keepRing(Transaction one, int size) {
        ringSize = 0;
        Transaction member = one;
        for (int i = 0; i < size && member != null; i++) {
            addRingMember(member.number);
            member = member.waitsFor;
        }
    }

    private void addRingMember(int number) {
        int place = ringSize;
        while (place > 0 && ringMembers[place - 1] > number) {
            ringMembers[place] = ringMembers[place - 1];
            place--;
        }
        ringMembers[place] = number;
        ringSize++;
    }

    // ---- the queue of those whose writes are tried again ----

    private void queueThoseWaitingFor(Transaction ended) {
        Transaction next = firstWaitingFor(ended, 0);
        for (int n = 0; n < MOST_TRANSACTIONS && next != null; n++) {
            addToQueue(next);
            next = firstWaitingFor(ended, next.beganToWait);
        }
    }

    /** The one that began to wait first, of those that began later than the given moment. */
    private Transaction firstWaitingFor(Transaction ended, int moment) {
        Transaction first = null;
        for (int number = 0; number < begun; number++) {
            Transaction one = transactions[number];
            if (one.waitsFor == ended && one.beganToWait > moment
                    && (first == null || one.beganToWait < first.beganToWait)) {
                first = one;
            }
        }
        return first;
    }

    private void addToQueue(Transaction one) {
        one.nextInQueue = null;
        if (lastInQueue == null) {
            firstInQueue = one;
        } else {
            lastInQueue.nextInQueue = one;
        }
        lastInQueue = one;
    }

    private void retryQueued() {
        for (int n = 0; n < MOST_TRIES && firstInQueue != null; n++) {
            Transaction one = firstInQueue;
            firstInQueue = one.nextInQueue;
            if (firstInQueue == null) {
                lastInQueue = null;
            }
            if (one.state == WAITING) {
                tryWrite(one, one.waitingTriple, one.waitingThere);
            }
        }
    }
}
