import java.util.ArrayDeque;
import java.util.ArrayList;
import java.util.HashMap;
import java.util.HashSet;
import java.util.List;
import java.util.Map;
import java.util.NoSuchElementException;
import java.util.Set;

/**
 * A second form of the document, written in another way than the program: each version is a plain list of
 * elements with a table that tells which node stands at which place, and whole states are copied.
 */
final class Model {
    /** A place in a tree: level 1 has the leaves, and position counts from the left on its level. */
    private record Place(int level, int position) {
    }

    private record Node(int level, List<Integer> entries) {
    }

    private static final class Version {
        int parent;
        int created;
        boolean released;
        List<Integer> elements;
        Map<Place, Integer> nodes;

        Version copy() {
            Version other = new Version();
            other.parent = parent;
            other.created = created;
            other.released = released;
            other.elements = elements;
            other.nodes = nodes;
            return other;
        }
    }

    private static final class State {
        List<Version> versions = new ArrayList<>();
        Map<Integer, Node> stored = new HashMap<>();
        int created;

        State copy() {
            State other = new State();
            for (Version version : versions) {
                other.versions.add(version.copy());
            }
            other.stored.putAll(stored);
            other.created = created;
            return other;
        }
    }

    private State state = new State();
    private State saved;
    private final ArrayDeque<State> changes = new ArrayDeque<>();
    private String output = "";
    private final StringBuilder input = new StringBuilder();
    private int errorCode;
    private int errorOffset = -1;

    Model() {
        begin(List.of(5, -2, 7, 7, 0, 12, 3, 1, 9, 4));
    }

    // ---- making versions ----

    private void begin(List<Integer> elements) {
        state = new State();
        addVersion(-1, elements, new HashMap<>());
    }

    /** Nodes that are not in the table of kept ones are created, level by level. */
    private int addVersion(int parent, List<Integer> elements, Map<Place, Integer> kept) {
        Version version = new Version();
        version.parent = parent;
        version.elements = elements;
        version.nodes = new HashMap<>();
        int before = state.created;
        for (int level = 1; level <= heightOf(elements.size()); level++) {
            for (int position = 0; position * span(level) < elements.size(); position++) {
                Place place = new Place(level, position);
                Integer number = kept.get(place);
                if (number == null) {
                    number = state.created++;
                    state.stored.put(number, new Node(level, entries(version, place)));
                }
                version.nodes.put(place, number);
            }
        }
        version.created = state.created - before;
        state.versions.add(version);
        return state.versions.size() - 1;
    }

    private static List<Integer> entries(Version version, Place place) {
        List<Integer> entries = new ArrayList<>();
        for (int i = 4 * place.position; i < 4 * place.position + 4; i++) {
            if (place.level == 1 && i < version.elements.size()) {
                entries.add(version.elements.get(i));
            }
            Integer child = version.nodes.get(new Place(place.level - 1, i));
            if (child != null) {
                entries.add(child);
            }
        }
        return entries;
    }

    private static int span(int level) {
        int span = 1;
        for (int i = 0; i < level; i++) {
            span *= 4;
        }
        return span;
    }

    private static int heightOf(int size) {
        int height = 0;
        while (size > 0 && (height == 0 || span(height) < size)) {
            height++;
        }
        return height;
    }

    private static Map<Place, Integer> withoutPathTo(Map<Place, Integer> nodes, int index) {
        Map<Place, Integer> kept = new HashMap<>(nodes);
        kept.keySet().removeIf(place -> place.position == index / span(place.level));
        return kept;
    }

    private int doSet(int version, int index, int value) {
        Version old = state.versions.get(version);
        List<Integer> elements = new ArrayList<>(old.elements);
        boolean same = elements.set(index, value) == value;
        return addVersion(version, elements, same ? old.nodes : withoutPathTo(old.nodes, index));
    }

    private int doAppend(int version, int value) {
        Version old = state.versions.get(version);
        List<Integer> elements = new ArrayList<>(old.elements);
        elements.add(value);
        return addVersion(version, elements, withoutPathTo(old.nodes, elements.size() - 1));
    }

    private int doTruncate(int version, int size) {
        Version old = state.versions.get(version);
        Map<Place, Integer> kept = new HashMap<>(old.nodes);
        kept.keySet().removeIf(place -> {
            int end = Math.min((place.position + 1) * span(place.level), old.elements.size());
            return end > size;
        });
        return addVersion(version, new ArrayList<>(old.elements.subList(0, size)), kept);
    }

    // ---- refusals ----

    private boolean exists(int version) {
        return version >= 0 && version < state.versions.size();
    }

    private Version existing(int version) {
        if (!exists(version)) {
            throw new IndexOutOfBoundsException();
        }
        return state.versions.get(version);
    }

    private Version readable(int version) {
        if (existing(version).released) {
            throw new IllegalStateException();
        }
        return state.versions.get(version);
    }

    private void bothReadable(int version, int other) {
        existing(version);
        existing(other);
        readable(version);
        readable(other);
    }

    private void needElement(int version, int index) {
        Version there = existing(version);
        if (!there.released && (index < 0 || index >= there.elements.size())) {
            throw new IndexOutOfBoundsException();
        }
    }

    private static void needValue(int value) {
        if (Math.abs((long) value) > 999) {
            throw new IllegalArgumentException();
        }
    }

    private void needRoom() {
        if (state.versions.size() == 40) {
            throw new IllegalStateException();
        }
    }

    private void needSet(int version, int index, int value) {
        needElement(version, index);
        needValue(value);
        readable(version);
        needRoom();
    }

    private void needAppend(int version, int value) {
        existing(version);
        needValue(value);
        if (readable(version).elements.size() == 64) {
            throw new IllegalStateException();
        }
        needRoom();
    }

    private void needTruncate(int version, int size) {
        Version there = existing(version);
        if (size < 0 || !there.released && size > there.elements.size()) {
            throw new IllegalArgumentException();
        }
        readable(version);
        needRoom();
    }

    // ---- the face ----

    int appendInput(int a, int b, int c, int d, int e) {
        if (input.length() > 580) {
            return -1;
        }
        for (int word : new int[] {a, b, c, d, e}) {
            for (byte part : java.nio.ByteBuffer.allocate(4).putInt(word).array()) {
                input.append((char) (part & 255));
            }
        }
        return input.length();
    }

    boolean truncateInput(int length) {
        boolean fits = length >= 0 && length <= input.length();
        if (fits) {
            input.setLength(length);
        }
        return fits;
    }

    int loadSetup() {
        ModelText text = new ModelText(input.toString());
        List<Integer> elements = text.setup();
        takeText(text);
        if (elements == null) {
            return -1;
        }
        changes.clear();
        saved = null;
        begin(elements);
        return elements.size();
    }

    int runScript() {
        ModelText text = new ModelText(input.toString());
        List<List<Integer>> statements = text.script();
        takeText(text);
        if (statements == null) {
            return -1;
        }
        keepChange();
        int executed = 0;
        try {
            for (List<Integer> statement : statements) {
                execute(statement);
                executed++;
            }
        } catch (IndexOutOfBoundsException | IllegalArgumentException | IllegalStateException e) {
            return executed;
        }
        return executed;
    }

    private void takeText(ModelText text) {
        errorCode = text.errorCode;
        errorOffset = text.errorOffset;
        input.setLength(0);
    }

    private void execute(List<Integer> statement) {
        int version = statement.size() > 1 ? statement.get(1) : 0;
        int second = statement.size() > 2 ? statement.get(2) : 0;
        switch (statement.get(0)) {
            case 0 -> {
                needSet(version, second, statement.get(3));
                doSet(version, second, statement.get(3));
            }
            case 1 -> {
                needAppend(version, second);
                doAppend(version, second);
            }
            case 2 -> {
                needTruncate(version, second);
                doTruncate(version, second);
            }
            case 3 -> readable(version).released = true;
            default -> state.stored.keySet().retainAll(reached(-1));
        }
    }

    int errorCode() {
        return errorCode;
    }

    int errorOffset() {
        return errorOffset;
    }

    int versionCount() {
        return state.versions.size();
    }

    int liveCount() {
        return (int) state.versions.stream().filter(v -> !v.released).count();
    }

    boolean isReleased(int version) {
        return existing(version).released;
    }

    int parentOf(int version) {
        return existing(version).parent;
    }

    /** A version and its ancestors, upwards. */
    private List<Integer> line(int version) {
        List<Integer> line = new ArrayList<>();
        for (int v = version; v != -1; v = state.versions.get(v).parent) {
            line.add(v);
        }
        return line;
    }

    int depthOf(int version) {
        existing(version);
        return line(version).size() - 1;
    }

    int childCount(int version) {
        existing(version);
        return (int) state.versions.stream().filter(v -> v.parent == version).count();
    }

    int commonAncestor(int version, int other) {
        existing(version);
        existing(other);
        List<Integer> common = line(version);
        common.retainAll(line(other));
        return common.get(0);
    }

    int size(int version) {
        return readable(version).elements.size();
    }

    int height(int version) {
        return heightOf(size(version));
    }

    int rootOf(int version) {
        return readable(version).nodes.getOrDefault(new Place(height(version), 0), -1);
    }

    int get(int version, int index) {
        needElement(version, index);
        return readable(version).elements.get(index);
    }

    int leafOf(int version, int index) {
        needElement(version, index);
        return readable(version).nodes.get(new Place(1, index / 4));
    }

    int sum(int version) {
        return readable(version).elements.stream().mapToInt(i -> i).sum();
    }

    int indexOf(int version, int value) {
        return readable(version).elements.indexOf(value);
    }

    int createdNodes() {
        return state.created;
    }

    int storedNodes() {
        return state.stored.size();
    }

    private Set<Integer> reached(int leftOut) {
        Set<Integer> reached = new HashSet<>();
        for (int v = 0; v < state.versions.size(); v++) {
            if (v != leftOut && !state.versions.get(v).released) {
                reached.addAll(state.versions.get(v).nodes.values());
            }
        }
        return reached;
    }

    int garbageNodes() {
        Set<Integer> garbage = new HashSet<>(state.stored.keySet());
        garbage.removeAll(reached(-1));
        return garbage.size();
    }

    int nodesCreatedFor(int version) {
        return existing(version).created;
    }

    int nodesOf(int version) {
        return readable(version).nodes.size();
    }

    int sharedNodes(int version, int other) {
        bothReadable(version, other);
        Set<Integer> shared = new HashSet<>(readable(version).nodes.values());
        shared.retainAll(readable(other).nodes.values());
        return shared.size();
    }

    int exclusiveNodes(int version) {
        Set<Integer> exclusive = new HashSet<>(readable(version).nodes.values());
        exclusive.removeAll(reached(version));
        return exclusive.size();
    }

    private Node storedNode(int node) {
        if (!state.stored.containsKey(node)) {
            throw new IndexOutOfBoundsException();
        }
        return state.stored.get(node);
    }

    boolean isLeaf(int node) {
        return storedNode(node).level == 1;
    }

    int entryCount(int node) {
        return storedNode(node).entries.size();
    }

    int childOf(int node, int position) {
        Node there = storedNode(node);
        boolean has = there.level > 1 && position >= 0 && position < there.entries.size();
        return has ? there.entries.get(position) : -1;
    }

    int referencesTo(int node) {
        storedNode(node);
        int references = 0;
        for (int v = 0; v < state.versions.size(); v++) {
            if (!state.versions.get(v).released && rootOf(v) == node) {
                references++;
            }
        }
        for (Node other : state.stored.values()) {
            if (other.level > 1 && other.entries.contains(node)) {
                references++;
            }
        }
        return references;
    }

    private List<Integer> differentIndexes(int version, int other) {
        bothReadable(version, other);
        List<Integer> one = readable(version).elements;
        List<Integer> two = readable(other).elements;
        List<Integer> different = new ArrayList<>();
        for (int i = 0; i < Math.max(one.size(), two.size()); i++) {
            if (i >= one.size() || i >= two.size() || !one.get(i).equals(two.get(i))) {
                different.add(i);
            }
        }
        return different;
    }

    int differences(int version, int other) {
        return differentIndexes(version, other).size();
    }

    int firstDifference(int version, int other) {
        List<Integer> different = differentIndexes(version, other);
        return different.isEmpty() ? -1 : different.get(0);
    }

    /** Every place that both have is visited, if the nodes there and everywhere above differ. */
    int comparisonCost(int version, int other) {
        bothReadable(version, other);
        if (height(version) != height(other)) {
            return -1;
        }
        Map<Place, Integer> one = readable(version).nodes;
        Map<Place, Integer> two = readable(other).nodes;
        int cost = 0;
        for (Place place : one.keySet()) {
            boolean visited = two.containsKey(place);
            int position = place.position;
            for (int level = place.level; visited && level <= height(version); level++) {
                Place above = new Place(level, position);
                visited = !one.get(above).equals(two.get(above));
                position /= 4;
            }
            cost += visited ? 1 : 0;
        }
        return cost;
    }

    int nodesForSet(int version, int index, int value) {
        needElement(version, index);
        needValue(value);
        readable(version);
        State before = state.copy();
        int made = state.versions.get(doSet(version, index, value)).created;
        state = before;
        return made;
    }

    int nodesForAppend(int version) {
        if (readable(version).elements.size() == 64) {
            return -1;
        }
        State before = state.copy();
        int made = state.versions.get(doAppend(version, 0)).created;
        state = before;
        return made;
    }

    int garbageIfReleased(int version) {
        readable(version);
        int before = garbageNodes();
        state.versions.get(version).released = true;
        int after = garbageNodes();
        state.versions.get(version).released = false;
        return after - before;
    }

    int largestVersion() {
        int largest = -1;
        for (int size = 0; size <= 64; size++) {
            for (int v = state.versions.size() - 1; v >= 0; v--) {
                Version there = state.versions.get(v);
                if (!there.released && there.elements.size() == size) {
                    largest = v;
                }
            }
        }
        return largest;
    }

    double sharing() {
        double all = 0;
        for (Version version : state.versions) {
            all += version.released ? 0 : version.nodes.size();
        }
        int reached = reached(-1).size();
        return reached == 0 ? 0.0 : all / reached;
    }

    float garbagePart() {
        return storedNodes() == 0 ? 0 : (float) garbageNodes() / (float) storedNodes();
    }

    boolean isConsistent() {
        return true;
    }

    private void keepChange() {
        changes.addLast(state.copy());
        if (changes.size() > 8) {
            changes.removeFirst();
        }
    }

    int set(int version, int index, int value) {
        needSet(version, index, value);
        keepChange();
        return doSet(version, index, value);
    }

    int append(int version, int value) {
        needAppend(version, value);
        keepChange();
        return doAppend(version, value);
    }

    int truncate(int version, int size) {
        needTruncate(version, size);
        keepChange();
        return doTruncate(version, size);
    }

    int release(int version) {
        readable(version);
        keepChange();
        state.versions.get(version).released = true;
        return garbageNodes();
    }

    int collect() {
        keepChange();
        int garbage = garbageNodes();
        state.stored.keySet().retainAll(reached(-1));
        return garbage;
    }

    int undo() {
        if (changes.isEmpty()) {
            throw new NoSuchElementException();
        }
        state = changes.removeLast();
        return changes.size();
    }

    int writeVersion(int version) {
        List<String> leaves = new ArrayList<>();
        List<Integer> elements = readable(version).elements;
        for (int i = 0; i < elements.size(); i += 4) {
            String leaf = elements.subList(i, Math.min(i + 4, elements.size())).toString();
            leaves.add(leaf.substring(1, leaf.length() - 1).replace(" ", ""));
        }
        output = "[" + String.join("|", leaves) + "]";
        return output.length();
    }

    int outputByte(int index) {
        return index >= 0 && index < output.length() ? output.charAt(index) : -1;
    }

    int saveState() {
        saved = state.copy();
        return versionCount();
    }

    int restoreState() {
        if (saved == null) {
            throw new NoSuchElementException();
        }
        state = saved.copy();
        changes.clear();
        return versionCount();
    }
}
