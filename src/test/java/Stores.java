import java.util.List;

/** Stores in states that many sentences need. */
final class Stores {
    /** The sizes next to which something changes in a tree. */
    static final int[] EDGE_SIZES = {0, 1, 2, 3, 4, 5, 8, 9, 15, 16, 17, 20, 21, 32, 33, 48, 63, 64};

    private Stores() {
    }

    /** A store whose version 0 has the elements 0, 1, 2 and so on. */
    static VectorVersions counting(int size) {
        return Texts.loaded(Texts.counting(size));
    }

    /** Stores whose latest version has this size: by a setup, by truncating and by appending. */
    static List<VectorVersions> ofSize(int size) {
        VectorVersions truncated = counting(64);
        truncated.truncate(0, size);
        VectorVersions appended = counting(Math.max(size - 1, 0));
        if (size > 0) {
            appended.append(0, size - 1);
        }
        return List.of(counting(size), truncated, appended);
    }

    static int latest(VectorVersions x) {
        return x.versionCount() - 1;
    }

    /** A store with 40 versions, all with the elements of a new object. */
    static VectorVersions withFortyVersions() {
        VectorVersions x = new VectorVersions();
        for (int i = 1; i < 40; i++) {
            x.truncate(0, 10);
        }
        return x;
    }

    static int heightFor(int size) {
        if (size == 0) {
            return 0;
        }
        return size <= 4 ? 1 : size <= 16 ? 2 : 3;
    }

    /** How many leaves, inner nodes above them and so on a tree of this size has. */
    static int nodesFor(int size) {
        int nodes = 0;
        int entries = size;
        for (int level = 1; level <= heightFor(size); level++) {
            entries = (entries + 3) / 4;
            nodes += entries;
        }
        return nodes;
    }

    /** All that can be read without changing anything: a text that differs if an answer differs. */
    static String everything(VectorVersions x) {
        StringBuilder all = new StringBuilder();
        all.append(x.errorCode()).append(' ').append(x.errorOffset()).append(' ').append(Texts.output(x));
        for (int version = 0; version < x.versionCount(); version++) {
            int number = version;
            all.append("\nversion ").append(x.isReleased(version)).append(' ').append(x.parentOf(version));
            all.append(' ').append(x.nodesCreatedFor(version)).append(' ').append(Expect.answer(() -> x.rootOf(number)));
            all.append(' ').append(Expect.answer(() -> x.size(number)));
            all.append(' ').append(Expect.answer(() -> x.sum(number)));
        }
        all.append('\n').append(x.createdNodes()).append(' ').append(x.storedNodes()).append(' ').append(x.garbageNodes());
        for (int node = 0; node < x.createdNodes(); node++) {
            int number = node;
            all.append("\nnode ").append(Expect.answer(() -> x.entryCount(number)));
            all.append(' ').append(Expect.answer(() -> x.referencesTo(number)));
            for (int i = 0; i < 4; i++) {
                int position = i;
                all.append(' ').append(Expect.answer(() -> x.childOf(number, position)));
            }
        }
        return all.toString();
    }

    /** The elements of a version, by get. */
    static String elements(VectorVersions x, int version) {
        StringBuilder all = new StringBuilder();
        for (int i = 0; i < x.size(version); i++) {
            all.append(i == 0 ? "" : " ").append(x.get(version, i));
        }
        return all.toString();
    }

    /** How many changes can be undone, as far as 20; undoes them. */
    static int undoAll(VectorVersions x) {
        for (int undone = 0; undone < 20; undone++) {
            if (Expect.answer(x::undo) instanceof String) {
                return undone;
            }
        }
        return 20;
    }
}
