import java.util.NoSuchElementException;

/** A store of persistent vectors that copies paths of a tree and keeps all versions until they are released. */
public final class VectorVersions {
    public static final int NONE = -1;
    public static final int NO_ERROR = 0;
    public static final int SYNTAX = 1;
    public static final int OUT_OF_RANGE = 2;
    public static final int TOO_MANY = 3;

    private static final int[] FIRST_ELEMENTS = {5, -2, 7, 7, 0, 12, 3, 1, 9, 4};

    private static final int WIDTH = 4;
    private static final int MAX_SIZE = 64;
    private static final int MAX_VALUE = 999;
    private static final int MAX_VERSIONS = 40;
    // 21 nodes of a version 0 with 64 elements, and at most 3 for each of the 39 others.
    private static final int MAX_NODES = 138;
    private static final int MAX_CHANGES = 8;
    private static final int MAX_STATEMENTS = 30;
    private static final int MAX_INPUT = 600;
    private static final int BLOCK_BYTES = 20;
    // Two brackets, 64 elements of at most four bytes, and a byte between any two of them.
    private static final int MAX_OUTPUT = 321;

    // Why a call is refused. The smallest that applies is the exception that the document lists first.
    private static final int NO_FAULT = 0;
    private static final int NO_PLACE = 1;
    private static final int BAD_ARGUMENT = 2;
    private static final int BAD_STATE = 3;

    private static final int NO_TOKEN = 0;
    private static final int WORD = 1;
    private static final int NUMBER = 2;
    private static final int SEMICOLON = 3;

    // The words of statements; those of scripts are the last ones.
    private static final int UNKNOWN = 0;
    private static final int LIST = 1;
    private static final int MINUS = 2;
    private static final int SET = 3;
    private static final int APPEND = 4;
    private static final int TRUNCATE = 5;
    private static final int RELEASE = 6;
    private static final int COLLECT = 7;

    private final Store store = new Store();
    private final Store savedStore = new Store();
    private boolean hasSavedStore;
    private final Reach reach = new Reach(store);
    private final Check check = new Check(store, reach);
    private final History history = new History();
    private final Input input = new Input();
    private final Tokens tokens = new Tokens(input);
    private final Setup setup = new Setup(tokens);
    private final Script script = new Script(tokens);
    private final Output output = new Output();

    public VectorVersions() {
        store.begin(FIRST_ELEMENTS, FIRST_ELEMENTS.length);
    }

    // ---- texts ----

    public int appendInput(int a, int b, int c, int d, int e) {
        if (!input.hasRoomForBlock()) {
            return NONE;
        }
        input.addWord(a);
        input.addWord(b);
        input.addWord(c);
        input.addWord(d);
        input.addWord(e);
        return input.length;
    }

    public boolean truncateInput(int length) {
        if (length < 0 || length > input.length) {
            return false;
        }
        input.length = length;
        return true;
    }

    public int loadSetup() {
        boolean valid = setup.parse();
        input.length = 0;
        if (!valid) {
            return NONE;
        }
        store.begin(setup.values, setup.count);
        history.forget();
        hasSavedStore = false;
        return setup.count;
    }

    public int runScript() {
        boolean valid = script.parse();
        input.length = 0;
        if (!valid) {
            return NONE;
        }
        history.keep(store);
        int executed = 0;
        while (executed < script.count && faultOfStatement(executed) == NO_FAULT) {
            perform(executed);
            executed++;
        }
        return executed;
    }

    public int errorCode() {
        return tokens.errorKind;
    }

    public int errorOffset() {
        return tokens.errorPlace;
    }

    // ---- versions ----

    public int versionCount() {
        return store.versions.count;
    }

    public int liveCount() {
        return store.versions.countLive();
    }

    public boolean isReleased(int version) throws IndexOutOfBoundsException {
        requireVersion(version);
        return !store.versions.isLive(version);
    }

    public int parentOf(int version) throws IndexOutOfBoundsException {
        requireVersion(version);
        return store.versions.parentAt(version);
    }

    public int depthOf(int version) throws IndexOutOfBoundsException {
        requireVersion(version);
        return store.versions.countAncestors(version);
    }

    public int childCount(int version) throws IndexOutOfBoundsException {
        requireVersion(version);
        return store.versions.countChildren(version);
    }

    public int commonAncestor(int version, int other) throws IndexOutOfBoundsException {
        requireVersion(version);
        requireVersion(other);
        return store.versions.meetingPoint(version, other);
    }

    // ---- vectors ----

    public int size(int version) throws IndexOutOfBoundsException, IllegalStateException {
        requireReadable(version);
        return store.versions.sizeAt(version);
    }

    public int height(int version) throws IndexOutOfBoundsException, IllegalStateException {
        requireReadable(version);
        return store.heightAt(version);
    }

    public int rootOf(int version) throws IndexOutOfBoundsException, IllegalStateException {
        requireReadable(version);
        return store.versions.rootAt(version);
    }

    public int get(int version, int index) throws IndexOutOfBoundsException, IllegalStateException {
        refuse(store.versions.faultOfElement(version, index));
        return store.elementAt(version, index);
    }

    public int leafOf(int version, int index) throws IndexOutOfBoundsException, IllegalStateException {
        refuse(store.versions.faultOfElement(version, index));
        return store.leafAt(version, index);
    }

    public int sum(int version) throws IndexOutOfBoundsException, IllegalStateException {
        requireReadable(version);
        return store.addUp(version);
    }

    public int indexOf(int version, int value) throws IndexOutOfBoundsException, IllegalStateException {
        requireReadable(version);
        return store.find(version, value);
    }

    // ---- nodes ----

    public int createdNodes() {
        return store.nodes.created;
    }

    public int storedNodes() {
        return store.nodes.countStored();
    }

    public int garbageNodes() {
        return reach.countGarbage();
    }

    public int nodesCreatedFor(int version) throws IndexOutOfBoundsException {
        requireVersion(version);
        return store.versions.createdForAt(version);
    }

    public int nodesOf(int version) throws IndexOutOfBoundsException, IllegalStateException {
        requireReadable(version);
        return store.countTree(version);
    }

    public int sharedNodes(int version, int other) throws IndexOutOfBoundsException, IllegalStateException {
        requireBothReadable(version, other);
        return reach.countShared(version, other);
    }

    public int exclusiveNodes(int version) throws IndexOutOfBoundsException, IllegalStateException {
        requireReadable(version);
        return reach.countExclusive(version);
    }

    public boolean isLeaf(int node) throws IndexOutOfBoundsException {
        requireNode(node);
        return store.nodes.levelAt(node) == 1;
    }

    public int entryCount(int node) throws IndexOutOfBoundsException {
        requireNode(node);
        return store.nodes.fillAt(node);
    }

    public int childOf(int node, int position) throws IndexOutOfBoundsException {
        requireNode(node);
        return store.nodes.childAt(node, position);
    }

    public int referencesTo(int node) throws IndexOutOfBoundsException {
        requireNode(node);
        return store.versions.countLiveRoots(node) + store.nodes.countReferrers(node);
    }

    // ---- comparisons and forecasts ----

    public int differences(int version, int other) throws IndexOutOfBoundsException, IllegalStateException {
        requireBothReadable(version, other);
        return store.countDifferences(version, other);
    }

    public int firstDifference(int version, int other) throws IndexOutOfBoundsException, IllegalStateException {
        requireBothReadable(version, other);
        return store.findDifference(version, other);
    }

    public int comparisonCost(int version, int other) throws IndexOutOfBoundsException, IllegalStateException {
        requireBothReadable(version, other);
        return store.costOfComparing(version, other);
    }

    public int nodesForSet(int version, int index, int value)
            throws IndexOutOfBoundsException, IllegalArgumentException, IllegalStateException {
        refuse(store.versions.faultOfReplacement(version, index, value));
        return store.elementAt(version, index) == value ? 0 : store.heightAt(version);
    }

    public int nodesForAppend(int version) throws IndexOutOfBoundsException, IllegalStateException {
        requireReadable(version);
        int newSize = store.versions.sizeAt(version) + 1;
        return newSize > MAX_SIZE ? NONE : heightFor(newSize);
    }

    public int garbageIfReleased(int version) throws IndexOutOfBoundsException, IllegalStateException {
        requireReadable(version);
        return reach.countExclusive(version);
    }

    public int largestVersion() {
        return store.versions.findLargest();
    }

    public double sharing() {
        int reached = reach.countReachedWithout(NONE);
        return reached == 0 ? 0.0 : (double) store.countAllTrees() / (double) reached;
    }

    public float garbagePart() {
        int stored = store.nodes.countStored();
        return stored == 0 ? 0.0f : (float) reach.countGarbage() / (float) stored;
    }

    public boolean isConsistent() {
        return check.passes();
    }

    // ---- changes ----

    public int set(int version, int index, int value)
            throws IndexOutOfBoundsException, IllegalArgumentException, IllegalStateException {
        beginChange(store.versions.faultOfSet(version, index, value));
        return store.makeWithElement(version, index, value);
    }

    public int append(int version, int value)
            throws IndexOutOfBoundsException, IllegalArgumentException, IllegalStateException {
        beginChange(store.versions.faultOfAppend(version, value));
        return store.makeLonger(version, value);
    }

    public int truncate(int version, int size)
            throws IndexOutOfBoundsException, IllegalArgumentException, IllegalStateException {
        beginChange(store.versions.faultOfTruncate(version, size));
        return store.makeShorter(version, size);
    }

    public int release(int version) throws IndexOutOfBoundsException, IllegalStateException {
        beginChange(store.versions.faultOfReading(version));
        store.versions.drop(version);
        return reach.countGarbage();
    }

    public int collect() {
        beginChange(NO_FAULT);
        return reach.removeGarbage();
    }

    public int undo() throws NoSuchElementException {
        if (history.count == 0) {
            throw new NoSuchElementException("there is no change to undo");
        }
        history.goBack(store);
        return history.count;
    }

    // ---- output and saved state ----

    public int writeVersion(int version) throws IndexOutOfBoundsException, IllegalStateException {
        requireReadable(version);
        output.write(store, version);
        return output.length;
    }

    public int outputByte(int index) {
        return output.byteAt(index);
    }

    public int saveState() {
        savedStore.copyFrom(store);
        hasSavedStore = true;
        return store.versions.count;
    }

    public int restoreState() throws NoSuchElementException {
        if (!hasSavedStore) {
            throw new NoSuchElementException("no state is saved");
        }
        store.copyFrom(savedStore);
        history.forget();
        return store.versions.count;
    }

    // ---- the execution of scripts ----

    private int faultOfStatement(int statement) {
        int version = script.argumentOf(statement, 0);
        int argument = script.argumentOf(statement, 1);
        switch (script.wordOf(statement)) {
            case SET:
                return store.versions.faultOfSet(version, argument, script.argumentOf(statement, 2));
            case APPEND:
                return store.versions.faultOfAppend(version, argument);
            case TRUNCATE:
                return store.versions.faultOfTruncate(version, argument);
            case RELEASE:
                return store.versions.faultOfReading(version);
            default:
                return NO_FAULT;
        }
    }

    private void perform(int statement) {
        int version = script.argumentOf(statement, 0);
        int argument = script.argumentOf(statement, 1);
        switch (script.wordOf(statement)) {
            case SET:
                store.makeWithElement(version, argument, script.argumentOf(statement, 2));
                break;
            case APPEND:
                store.makeLonger(version, argument);
                break;
            case TRUNCATE:
                store.makeShorter(version, argument);
                break;
            case RELEASE:
                store.versions.drop(version);
                break;
            default:
                reach.removeGarbage();
                break;
        }
    }

    // ---- refusals ----

    private static void refuse(int fault) {
        switch (fault) {
            case NO_PLACE:
                throw new IndexOutOfBoundsException("there is no such version, element or node");
            case BAD_ARGUMENT:
                throw new IllegalArgumentException("the value or size is outside its range");
            case BAD_STATE:
                throw new IllegalStateException("the version is released, or there is no room for another");
            default:
                break;
        }
    }

    private void beginChange(int fault) {
        refuse(fault);
        history.keep(store);
    }

    private void requireVersion(int version) {
        refuse(store.versions.has(version) ? NO_FAULT : NO_PLACE);
    }

    private void requireReadable(int version) {
        refuse(store.versions.faultOfReading(version));
    }

    private void requireBothReadable(int version, int other) {
        refuse(store.versions.faultOfReadingBoth(version, other));
    }

    private void requireNode(int node) {
        refuse(store.nodes.isStored(node) ? NO_FAULT : NO_PLACE);
    }

    // ---- the shape of trees ----

    private static int capacity(int level) {
        return 1 << (2 * level);
    }

    private static int positionIn(int level, int index) {
        return (index >> (2 * (level - 1))) & (WIDTH - 1);
    }

    // A single element needs a leaf, so the height is 1 although 4 to the power of 0 would be enough.
    private static int heightFor(int size) {
        if (size <= 0) {
            return 0;
        }
        if (size <= capacity(1)) {
            return 1;
        }
        return size <= capacity(2) ? 2 : 3;
    }

    private static boolean isElementValue(int value) {
        return value >= -MAX_VALUE && value <= MAX_VALUE;
    }

    // ---- rows, each place looked at before it is used ----

    private static int at(int[] row, int place) {
        return place >= 0 && place < row.length ? row[place] : NONE;
    }

    private static void put(int[] row, int place, int value) {
        if (place >= 0 && place < row.length) {
            row[place] = value;
        }
    }

    private static boolean flagAt(boolean[] row, int place) {
        return place >= 0 && place < row.length && row[place];
    }

    private static void putFlag(boolean[] row, int place, boolean flag) {
        if (place >= 0 && place < row.length) {
            row[place] = flag;
        }
    }

    private static void copyRow(int[] from, int[] to) {
        for (int i = 0; i < from.length && i < to.length; i++) {
            to[i] = from[i];
        }
    }

    private static void copyFlags(boolean[] from, int fromStart, boolean[] to, int toStart, int count) {
        for (int i = 0; i < count; i++) {
            putFlag(to, toStart + i, flagAt(from, fromStart + i));
        }
    }

    /** The nodes by their numbers. What stands in a node's row stays as it is, but for the mark of its collection. */
    private static final class Nodes {
        int created;
        private final int[] levels = new int[MAX_NODES];
        private final int[] fills = new int[MAX_NODES];
        private final int[] entries = new int[MAX_NODES * WIDTH];
        final boolean[] collected = new boolean[MAX_NODES];

        void copyFrom(Nodes other) {
            created = other.created;
            copyRow(other.levels, levels);
            copyRow(other.fills, fills);
            copyRow(other.entries, entries);
            copyFlags(other.collected, 0, collected, 0, MAX_NODES);
        }

        boolean isStored(int node) {
            return node >= 0 && node < created && !flagAt(collected, node);
        }

        int countStored() {
            int stored = 0;
            for (int node = 0; node < created; node++) {
                if (isStored(node)) {
                    stored++;
                }
            }
            return stored;
        }

        /** The level of a leaf is 1. */
        int levelAt(int node) {
            return at(levels, node);
        }

        int fillAt(int node) {
            return node >= 0 && node < fills.length ? fills[node] : 0;
        }

        int entryAt(int node, int position) {
            if (position < 0 || position >= fillAt(node)) {
                return NONE;
            }
            return at(entries, node * WIDTH + position);
        }

        int childAt(int node, int position) {
            return levelAt(node) > 1 ? entryAt(node, position) : NONE;
        }

        int add(int level) {
            int node = created;
            put(levels, node, level);
            put(fills, node, 0);
            putFlag(collected, node, false);
            created++;
            return node;
        }

        /** Used only on a node that is just being created. */
        void place(int node, int position, int entry) {
            put(entries, node * WIDTH + position, entry);
            put(fills, node, Math.max(fillAt(node), position + 1));
        }

        /** Adds a node with the first entries of an old one (or of none), and with one entry put over or behind them. */
        int addCopy(int old, int level, int kept, int position, int entry) {
            int node = add(level);
            for (int i = 0; i < kept; i++) {
                place(node, i, entryAt(old, i));
            }
            place(node, position, entry);
            return node;
        }

        int countReferrers(int child) {
            int referrers = 0;
            for (int node = 0; node < created; node++) {
                if (isStored(node) && refersTo(node, child)) {
                    referrers++;
                }
            }
            return referrers;
        }

        private boolean refersTo(int node, int child) {
            for (int i = 0; i < fillAt(node); i++) {
                if (childAt(node, i) == child) {
                    return true;
                }
            }
            return false;
        }
    }

    /** The versions by their numbers. A parent's number is always smaller than those of its children. */
    private static final class Versions {
        int count;
        private final int[] parents = new int[MAX_VERSIONS];
        private final int[] roots = new int[MAX_VERSIONS];
        private final int[] sizes = new int[MAX_VERSIONS];
        private final int[] createdFor = new int[MAX_VERSIONS];
        // How each version differs from its parent: a record of its elements that does not rely on the trees.
        private final int[] changedIndexes = new int[MAX_VERSIONS];
        private final int[] changedValues = new int[MAX_VERSIONS];
        private final int[] firstElements = new int[MAX_SIZE];
        final boolean[] released = new boolean[MAX_VERSIONS];

        void copyFrom(Versions other) {
            count = other.count;
            copyRow(other.parents, parents);
            copyRow(other.roots, roots);
            copyRow(other.sizes, sizes);
            copyRow(other.createdFor, createdFor);
            copyRow(other.changedIndexes, changedIndexes);
            copyRow(other.changedValues, changedValues);
            copyRow(other.firstElements, firstElements);
            copyFlags(other.released, 0, released, 0, MAX_VERSIONS);
        }

        void begin(int[] elements, int size, int root, int created) {
            copyRow(elements, firstElements);
            count = 0;
            add(NONE, root, size, created, NONE, 0);
        }

        int add(int parent, int root, int size, int created, int changedIndex, int changedValue) {
            int version = count;
            put(parents, version, parent);
            put(roots, version, root);
            put(sizes, version, size);
            put(createdFor, version, created);
            put(changedIndexes, version, changedIndex);
            put(changedValues, version, changedValue);
            putFlag(released, version, false);
            count++;
            return version;
        }

        void drop(int version) {
            putFlag(released, version, true);
        }

        boolean has(int version) {
            return version >= 0 && version < count;
        }

        boolean isLive(int version) {
            return has(version) && !flagAt(released, version);
        }

        int parentAt(int version) {
            return at(parents, version);
        }

        int rootAt(int version) {
            return at(roots, version);
        }

        int sizeAt(int version) {
            return at(sizes, version);
        }

        int createdForAt(int version) {
            return at(createdFor, version);
        }

        int countLive() {
            int live = 0;
            for (int version = 0; version < count; version++) {
                if (isLive(version)) {
                    live++;
                }
            }
            return live;
        }

        int countAncestors(int version) {
            int ancestors = 0;
            int above = parentAt(version);
            while (above != NONE && ancestors < MAX_VERSIONS) {
                ancestors++;
                above = parentAt(above);
            }
            return ancestors;
        }

        int countChildren(int parent) {
            int children = 0;
            for (int version = 0; version < count; version++) {
                if (parentAt(version) == parent) {
                    children++;
                }
            }
            return children;
        }

        // The greater of two different numbers is no ancestor of the other one, so it can always step up.
        int meetingPoint(int version, int other) {
            int one = version;
            int two = other;
            for (int step = 0; one != two && step < 2 * MAX_VERSIONS; step++) {
                if (one > two) {
                    one = parentAt(one);
                } else {
                    two = parentAt(two);
                }
            }
            return one;
        }

        int countLiveRoots(int node) {
            int live = 0;
            for (int version = 0; version < count; version++) {
                if (isLive(version) && rootAt(version) == node) {
                    live++;
                }
            }
            return live;
        }

        int findLargest() {
            int largest = NONE;
            for (int version = 0; version < count; version++) {
                if (isLive(version) && (largest == NONE || sizeAt(version) > sizeAt(largest))) {
                    largest = version;
                }
            }
            return largest;
        }

        /** The element as it was when the version was made: the nearest change of its index decides. */
        int recordedElement(int version, int index) {
            int owner = version;
            for (int step = 0; owner != NONE && step < MAX_VERSIONS; step++) {
                if (at(changedIndexes, owner) == index) {
                    return at(changedValues, owner);
                }
                owner = parentAt(owner);
            }
            return at(firstElements, index);
        }

        int sumOfCreated() {
            int created = 0;
            for (int version = 0; version < count; version++) {
                created += createdForAt(version);
            }
            return created;
        }

        private boolean isFull() {
            return count >= MAX_VERSIONS;
        }

        int faultOfReading(int version) {
            if (!has(version)) {
                return NO_PLACE;
            }
            return isLive(version) ? NO_FAULT : BAD_STATE;
        }

        int faultOfReadingBoth(int version, int other) {
            if (!has(version) || !has(other)) {
                return NO_PLACE;
            }
            return isLive(version) && isLive(other) ? NO_FAULT : BAD_STATE;
        }

        int faultOfElement(int version, int index) {
            int fault = faultOfReading(version);
            if (fault == NO_FAULT && (index < 0 || index >= sizeAt(version))) {
                return NO_PLACE;
            }
            return fault;
        }

        int faultOfReplacement(int version, int index, int value) {
            int fault = faultOfElement(version, index);
            if (fault != NO_PLACE && !isElementValue(value)) {
                return BAD_ARGUMENT;
            }
            return fault;
        }

        int faultOfSet(int version, int index, int value) {
            int fault = faultOfReplacement(version, index, value);
            return fault == NO_FAULT && isFull() ? BAD_STATE : fault;
        }

        int faultOfAppend(int version, int value) {
            if (!has(version)) {
                return NO_PLACE;
            }
            if (!isElementValue(value)) {
                return BAD_ARGUMENT;
            }
            return !isLive(version) || sizeAt(version) >= MAX_SIZE || isFull() ? BAD_STATE : NO_FAULT;
        }

        int faultOfTruncate(int version, int size) {
            if (!has(version)) {
                return NO_PLACE;
            }
            if (size < 0 || isLive(version) && size > sizeAt(version)) {
                return BAD_ARGUMENT;
            }
            return !isLive(version) || isFull() ? BAD_STATE : NO_FAULT;
        }
    }

    /** Versions and their nodes: what a saved state keeps. */
    private static final class Store {
        final Nodes nodes = new Nodes();
        final Versions versions = new Versions();

        void copyFrom(Store other) {
            nodes.copyFrom(other.nodes);
            versions.copyFrom(other.versions);
        }

        void begin(int[] elements, int size) {
            nodes.created = 0;
            addLeaves(elements, size);
            int firstBelow = 0;
            for (int level = 2; level <= heightFor(size); level++) {
                int end = nodes.created;
                addParents(level, firstBelow, end);
                firstBelow = end;
            }
            int root = size == 0 ? NONE : nodes.created - 1;
            versions.begin(elements, size, root, nodes.created);
        }

        private void addLeaves(int[] elements, int size) {
            int leaf = NONE;
            for (int index = 0; index < size; index++) {
                int position = positionIn(1, index);
                if (position == 0) {
                    leaf = nodes.add(1);
                }
                nodes.place(leaf, position, at(elements, index));
            }
        }

        private void addParents(int level, int firstChild, int end) {
            int parent = NONE;
            for (int child = firstChild; child < end; child++) {
                int position = positionIn(1, child - firstChild);
                if (position == 0) {
                    parent = nodes.add(level);
                }
                nodes.place(parent, position, child);
            }
        }

        int heightAt(int version) {
            return heightFor(versions.sizeAt(version));
        }

        int leafAt(int version, int index) {
            int node = versions.rootAt(version);
            for (int level = heightAt(version); level > 1; level--) {
                node = nodes.entryAt(node, positionIn(level, index));
            }
            return node;
        }

        int elementAt(int version, int index) {
            return nodes.entryAt(leafAt(version, index), positionIn(1, index));
        }

        int addUp(int version) {
            int total = 0;
            for (int index = 0; index < versions.sizeAt(version); index++) {
                total += elementAt(version, index);
            }
            return total;
        }

        int find(int version, int value) {
            for (int index = 0; index < versions.sizeAt(version); index++) {
                if (elementAt(version, index) == value) {
                    return index;
                }
            }
            return NONE;
        }

        int makeWithElement(int version, int index, int value) {
            int before = nodes.created;
            int root = versions.rootAt(version);
            if (elementAt(version, index) != value) {
                root = copyWithElement(root, heightAt(version), index, value);
            }
            return versions.add(version, root, versions.sizeAt(version), nodes.created - before, index, value);
        }

        int makeLonger(int version, int value) {
            int before = nodes.created;
            int size = versions.sizeAt(version);
            int root = versions.rootAt(version);
            int height = heightFor(size + 1);
            if (size > 0 && height > heightFor(size)) {
                int branch = copyWithElement(NONE, height - 1, size, value);
                root = addRoot(height, root, branch);
            } else {
                root = copyWithElement(root, height, size, value);
            }
            return versions.add(version, root, size + 1, nodes.created - before, size, value);
        }

        int makeShorter(int version, int size) {
            int before = nodes.created;
            int root = NONE;
            if (size > 0) {
                root = copyWithFirst(firstNodeAt(version, heightFor(size)), heightFor(size), size);
            }
            return versions.add(version, root, size, nodes.created - before, NONE, 0);
        }

        private int addRoot(int height, int first, int second) {
            int root = nodes.add(height);
            nodes.place(root, 0, first);
            nodes.place(root, 1, second);
            return root;
        }

        // The entry comes first, so that numbers are given from the leaf up to the root.
        private int copyWithElement(int node, int level, int index, int value) {
            int position = positionIn(level, index);
            int entry = value;
            if (level > 1) {
                entry = copyWithElement(nodes.childAt(node, position), level - 1, index, value);
            }
            return nodes.addCopy(node, level, nodes.fillAt(node), position, entry);
        }

        private int copyWithFirst(int node, int level, int size) {
            if (countElements(node, level) == size) {
                return node;
            }
            int position = positionIn(level, size - 1);
            int entry = nodes.entryAt(node, position);
            if (level > 1) {
                entry = copyWithFirst(entry, level - 1, size - position * capacity(level - 1));
            }
            return nodes.addCopy(node, level, position, position, entry);
        }

        private int firstNodeAt(int version, int wantedLevel) {
            int node = versions.rootAt(version);
            for (int level = heightAt(version); level > wantedLevel; level--) {
                node = nodes.entryAt(node, 0);
            }
            return node;
        }

        // Every node before the last one is full, so the last path alone tells how many there are.
        private int countElements(int top, int topLevel) {
            int node = top;
            int elements = 0;
            for (int level = topLevel; level > 1; level--) {
                int last = nodes.fillAt(node) - 1;
                elements += last * capacity(level - 1);
                node = nodes.entryAt(node, last);
            }
            return elements + nodes.fillAt(node);
        }

        int countTree(int version) {
            return countNodesFrom(versions.rootAt(version), heightAt(version));
        }

        int countAllTrees() {
            int total = 0;
            for (int version = 0; version < versions.count; version++) {
                if (versions.isLive(version)) {
                    total += countTree(version);
                }
            }
            return total;
        }

        private int countNodesFrom(int node, int level) {
            if (level < 1) {
                return 0;
            }
            int total = 1;
            for (int i = 0; level > 1 && i < nodes.fillAt(node); i++) {
                total += countNodesFrom(nodes.entryAt(node, i), level - 1);
            }
            return total;
        }

        int countDifferences(int version, int other) {
            int size = versions.sizeAt(version);
            int otherSize = versions.sizeAt(other);
            int found = Math.abs(size - otherSize);
            for (int index = 0; index < Math.min(size, otherSize); index++) {
                if (elementAt(version, index) != elementAt(other, index)) {
                    found++;
                }
            }
            return found;
        }

        int findDifference(int version, int other) {
            int size = versions.sizeAt(version);
            int otherSize = versions.sizeAt(other);
            int shorter = Math.min(size, otherSize);
            for (int index = 0; index < shorter; index++) {
                if (elementAt(version, index) != elementAt(other, index)) {
                    return index;
                }
            }
            return size == otherSize ? NONE : shorter;
        }

        int costOfComparing(int version, int other) {
            int height = heightAt(version);
            if (height != heightAt(other)) {
                return NONE;
            }
            return countPairs(versions.rootAt(version), versions.rootAt(other), height);
        }

        private int countPairs(int node, int other, int level) {
            if (node == other) {
                return 0;
            }
            int pairs = 1;
            int common = Math.min(nodes.fillAt(node), nodes.fillAt(other));
            for (int i = 0; level > 1 && i < common; i++) {
                pairs += countPairs(nodes.entryAt(node, i), nodes.entryAt(other, i), level - 1);
            }
            return pairs;
        }
    }

    /** Searches from the roots of versions, on a row that is used again for each search. */
    private static final class Reach {
        private final Store store;
        private final boolean[] reached = new boolean[MAX_NODES];

        Reach(Store store) {
            this.store = store;
        }

        int countGarbage() {
            searchWithout(NONE);
            return store.nodes.countStored() - countReached();
        }

        int removeGarbage() {
            searchWithout(NONE);
            int removed = 0;
            for (int node = 0; node < store.nodes.created; node++) {
                if (store.nodes.isStored(node) && !has(node)) {
                    putFlag(store.nodes.collected, node, true);
                    removed++;
                }
            }
            return removed;
        }

        int countExclusive(int version) {
            return countReachedWithout(NONE) - countReachedWithout(version);
        }

        int countShared(int version, int other) {
            clear();
            visit(store.versions.rootAt(version), store.heightAt(version));
            visit(store.versions.rootAt(other), store.heightAt(other));
            return store.countTree(version) + store.countTree(other) - countReached();
        }

        int countReachedWithout(int leftOut) {
            searchWithout(leftOut);
            return countReached();
        }

        /** Searches from all versions that are not released, but one (or none) that is left out. */
        void searchWithout(int leftOut) {
            clear();
            for (int version = 0; version < store.versions.count; version++) {
                if (version != leftOut && store.versions.isLive(version)) {
                    visit(store.versions.rootAt(version), store.heightAt(version));
                }
            }
        }

        boolean has(int node) {
            return flagAt(reached, node);
        }

        private void clear() {
            for (int node = 0; node < reached.length; node++) {
                reached[node] = false;
            }
        }

        // What is below a node that was reached before was reached with it.
        private void visit(int node, int level) {
            if (level < 1 || flagAt(reached, node)) {
                return;
            }
            putFlag(reached, node, true);
            for (int i = 0; level > 1 && i < store.nodes.fillAt(node); i++) {
                visit(store.nodes.entryAt(node, i), level - 1);
            }
        }

        private int countReached() {
            int found = 0;
            for (int node = 0; node < store.nodes.created; node++) {
                if (has(node)) {
                    found++;
                }
            }
            return found;
        }
    }

    /** The invariants, each found out in another way than the one in which the store keeps it. */
    private static final class Check {
        private final Store store;
        private final Reach reach;
        private final boolean[] held = new boolean[MAX_NODES];

        Check(Store store, Reach reach) {
            this.store = store;
            this.reach = reach;
        }

        boolean passes() {
            for (int version = 0; version < store.versions.count; version++) {
                if (store.versions.isLive(version) && !(treePasses(version) && elementsPass(version))) {
                    return false;
                }
            }
            return referencesPass() && store.versions.sumOfCreated() == store.nodes.created;
        }

        private boolean treePasses(int version) {
            int root = store.versions.rootAt(version);
            int height = store.heightAt(version);
            if (height == 0) {
                return root == NONE;
            }
            return nodePasses(root, height, true)
                && countLeafElements(root, height) == store.versions.sizeAt(version);
        }

        private boolean nodePasses(int node, int level, boolean last) {
            int fill = store.nodes.fillAt(node);
            if (!store.nodes.isStored(node) || store.nodes.levelAt(node) != level) {
                return false;
            }
            if (fill < 1 || fill < WIDTH && !last) {
                return false;
            }
            for (int i = 0; level > 1 && i < fill; i++) {
                if (!nodePasses(store.nodes.entryAt(node, i), level - 1, last && i == fill - 1)) {
                    return false;
                }
            }
            return true;
        }

        private int countLeafElements(int node, int level) {
            int fill = store.nodes.fillAt(node);
            if (level <= 1) {
                return fill;
            }
            int elements = 0;
            for (int i = 0; i < fill; i++) {
                elements += countLeafElements(store.nodes.entryAt(node, i), level - 1);
            }
            return elements;
        }

        private boolean elementsPass(int version) {
            for (int index = 0; index < store.versions.sizeAt(version); index++) {
                if (store.elementAt(version, index) != store.versions.recordedElement(version, index)) {
                    return false;
                }
            }
            return true;
        }

        private boolean referencesPass() {
            reach.searchWithout(NONE);
            followReferences();
            for (int node = 0; node < store.nodes.created; node++) {
                if (flagAt(held, node) != reach.has(node)) {
                    return false;
                }
            }
            return true;
        }

        // A node has a smaller number than all nodes that refer to it, so these are decided before it is.
        private void followReferences() {
            for (int node = store.nodes.created - 1; node >= 0; node--) {
                putFlag(held, node, store.versions.countLiveRoots(node) > 0);
            }
            for (int node = store.nodes.created - 1; node >= 0; node--) {
                if (store.nodes.isStored(node) && flagAt(held, node)) {
                    holdChildren(node);
                }
            }
        }

        private void holdChildren(int node) {
            for (int i = 0; i < store.nodes.fillAt(node); i++) {
                putFlag(held, store.nodes.childAt(node, i), true);
            }
        }
    }

    /**
     * The changes that can be undone. Versions and nodes are only ever added, so it is enough to keep
     * how many there were before a change, and which of them were released or collected.
     */
    private static final class History {
        int count;
        private int next;
        private final int[] versionCounts = new int[MAX_CHANGES];
        private final int[] nodeCounts = new int[MAX_CHANGES];
        private final boolean[] released = new boolean[MAX_CHANGES * MAX_VERSIONS];
        private final boolean[] collected = new boolean[MAX_CHANGES * MAX_NODES];

        void forget() {
            count = 0;
        }

        void keep(Store store) {
            put(versionCounts, next, store.versions.count);
            put(nodeCounts, next, store.nodes.created);
            copyFlags(store.versions.released, 0, released, next * MAX_VERSIONS, MAX_VERSIONS);
            copyFlags(store.nodes.collected, 0, collected, next * MAX_NODES, MAX_NODES);
            next = (next + 1) % MAX_CHANGES;
            count = Math.min(count + 1, MAX_CHANGES);
        }

        void goBack(Store store) {
            next = (next + MAX_CHANGES - 1) % MAX_CHANGES;
            count = Math.max(count - 1, 0);
            store.versions.count = at(versionCounts, next);
            store.nodes.created = at(nodeCounts, next);
            copyFlags(released, next * MAX_VERSIONS, store.versions.released, 0, MAX_VERSIONS);
            copyFlags(collected, next * MAX_NODES, store.nodes.collected, 0, MAX_NODES);
        }
    }

    /** The input buffer. */
    private static final class Input {
        int length;
        private final int[] bytes = new int[MAX_INPUT];

        boolean hasRoomForBlock() {
            return length + BLOCK_BYTES <= MAX_INPUT;
        }

        void addWord(int word) {
            addByte(word >>> 24);
            addByte((word >>> 16) & 255);
            addByte((word >>> 8) & 255);
            addByte(word & 255);
        }

        private void addByte(int value) {
            put(bytes, length, value);
            length++;
        }

        int byteAt(int place) {
            return place >= 0 && place < length && place < bytes.length ? bytes[place] : NONE;
        }
    }

    /** The tokens of the input buffer, one at a time, and the first error of the text. */
    private static final class Tokens {
        private final Input input;
        private int place;
        private int start;
        int kind;
        int word;
        int number;
        int errorKind = NO_ERROR;
        int errorPlace = NONE;

        Tokens(Input input) {
            this.input = input;
        }

        void begin() {
            errorKind = NO_ERROR;
            errorPlace = NONE;
            place = 0;
        }

        boolean fail(int error) {
            errorKind = error;
            errorPlace = start;
            return false;
        }

        /** Goes to the next token, and answers whether there is one. */
        boolean advance() {
            while (place < input.length && isBlank(input.byteAt(place))) {
                place++;
            }
            start = place;
            word = UNKNOWN;
            int first = input.byteAt(place);
            if (isLetter(first)) {
                readWord();
            } else if (isDigit(first)) {
                readNumber();
            } else {
                kind = first == ';' ? SEMICOLON : NO_TOKEN;
                place++;
            }
            return first != NONE;
        }

        // A word of more than 8 letters needs no test of its own, as no statement has such a word.
        private void readWord() {
            while (place < input.length && isLetter(input.byteAt(place))) {
                place++;
            }
            kind = WORD;
            word = knownWord();
        }

        private void readNumber() {
            number = 0;
            while (place < input.length && isDigit(input.byteAt(place))) {
                number = number * 10 + input.byteAt(place) - '0';
                place++;
            }
            kind = place - start > 3 ? NO_TOKEN : NUMBER;
        }

        private int knownWord() {
            if (spells("list")) {
                return LIST;
            }
            if (spells("minus")) {
                return MINUS;
            }
            if (spells("set")) {
                return SET;
            }
            if (spells("append")) {
                return APPEND;
            }
            if (spells("truncate")) {
                return TRUNCATE;
            }
            if (spells("release")) {
                return RELEASE;
            }
            return spells("collect") ? COLLECT : UNKNOWN;
        }

        private boolean spells(String known) {
            if (place - start != known.length()) {
                return false;
            }
            for (int i = 0; i < known.length(); i++) {
                if (input.byteAt(start + i) != known.charAt(i)) {
                    return false;
                }
            }
            return true;
        }

        private static boolean isBlank(int value) {
            return value == ' ' || value == '\n';
        }

        private static boolean isLetter(int value) {
            return value >= 'a' && value <= 'z';
        }

        private static boolean isDigit(int value) {
            return value >= '0' && value <= '9';
        }
    }

    /** The values of a setup text. */
    private static final class Setup {
        private final Tokens tokens;
        private boolean inList;
        private boolean behindMinus;
        final int[] values = new int[MAX_SIZE];
        int count;

        Setup(Tokens tokens) {
            this.tokens = tokens;
        }

        boolean parse() {
            count = 0;
            inList = false;
            behindMinus = false;
            tokens.begin();
            for (int i = 0; i <= MAX_INPUT && tokens.advance(); i++) {
                int error = inList ? accept() : open();
                if (error != NO_ERROR) {
                    return tokens.fail(error);
                }
            }
            return !inList || tokens.fail(SYNTAX);
        }

        private int open() {
            inList = true;
            return tokens.word == LIST ? NO_ERROR : SYNTAX;
        }

        private int accept() {
            if (behindMinus) {
                return tokens.kind == NUMBER ? keep(-tokens.number) : SYNTAX;
            }
            if (tokens.kind == SEMICOLON) {
                inList = false;
                return NO_ERROR;
            }
            if (tokens.kind != NUMBER && tokens.word != MINUS) {
                return SYNTAX;
            }
            if (count >= MAX_SIZE) {
                return TOO_MANY;
            }
            behindMinus = tokens.word == MINUS;
            return behindMinus ? NO_ERROR : keep(tokens.number);
        }

        private int keep(int value) {
            put(values, count, value);
            count++;
            behindMinus = false;
            return NO_ERROR;
        }
    }

    /** The statements of a script text, each a word and up to three arguments. */
    private static final class Script {
        private static final int COLUMNS = 4;
        private static final int MAX_ARGUMENTS = 3;
        // The greatest numbers of the arguments of set, append, truncate, release and collect, in rows of three.
        private static final int[] GREATEST = {
            39, 63, 999,
            39, 999, -1,
            39, 64, -1,
            39, -1, -1,
            -1, -1, -1,
        };

        private final Tokens tokens;
        private final int[] cells = new int[MAX_STATEMENTS * COLUMNS];
        private boolean inStatement;
        private boolean behindMinus;
        private int argument;
        int count;

        Script(Tokens tokens) {
            this.tokens = tokens;
        }

        int wordOf(int statement) {
            return at(cells, statement * COLUMNS);
        }

        int argumentOf(int statement, int position) {
            return at(cells, statement * COLUMNS + 1 + position);
        }

        boolean parse() {
            count = 0;
            inStatement = false;
            behindMinus = false;
            tokens.begin();
            for (int i = 0; i <= MAX_INPUT && tokens.advance(); i++) {
                int error = inStatement ? accept() : open();
                if (error != NO_ERROR) {
                    return tokens.fail(error);
                }
            }
            return !inStatement || tokens.fail(SYNTAX);
        }

        private int open() {
            if (tokens.word < SET) {
                return SYNTAX;
            }
            if (count >= MAX_STATEMENTS) {
                return TOO_MANY;
            }
            put(cells, count * COLUMNS, tokens.word);
            inStatement = true;
            argument = 0;
            return NO_ERROR;
        }

        private int accept() {
            int greatest = greatestArgument();
            if (greatest == NONE) {
                return close();
            }
            // Only an element may be negative, and only its range goes up to this number.
            if (greatest == MAX_VALUE && tokens.word == MINUS && !behindMinus) {
                behindMinus = true;
                return NO_ERROR;
            }
            if (tokens.kind != NUMBER) {
                return SYNTAX;
            }
            return tokens.number > greatest ? OUT_OF_RANGE : keep(tokens.number);
        }

        private int greatestArgument() {
            if (argument >= MAX_ARGUMENTS) {
                return NONE;
            }
            return at(GREATEST, (wordOf(count) - SET) * MAX_ARGUMENTS + argument);
        }

        private int keep(int number) {
            put(cells, count * COLUMNS + 1 + argument, behindMinus ? -number : number);
            argument++;
            behindMinus = false;
            return NO_ERROR;
        }

        private int close() {
            if (tokens.kind != SEMICOLON) {
                return SYNTAX;
            }
            inStatement = false;
            count++;
            return NO_ERROR;
        }
    }

    /** The output. */
    private static final class Output {
        int length;
        private final int[] bytes = new int[MAX_OUTPUT];

        int byteAt(int place) {
            return place < length ? at(bytes, place) : NONE;
        }

        void write(Store store, int version) {
            length = 0;
            addByte('[');
            for (int index = 0; index < store.versions.sizeAt(version); index++) {
                if (index > 0) {
                    addByte(positionIn(1, index) == 0 ? '|' : ',');
                }
                addNumber(store.elementAt(version, index));
            }
            addByte(']');
        }

        private void addNumber(int number) {
            if (number < 0) {
                addByte('-');
            }
            int digits = Math.abs(number);
            if (digits >= 100) {
                addByte('0' + digits / 100);
            }
            if (digits >= 10) {
                addByte('0' + digits / 10 % 10);
            }
            addByte('0' + digits % 10);
        }

        private void addByte(int value) {
            put(bytes, length, value);
            length++;
        }
    }
}
