/** Calls with numbers that no version or no node has, and with versions that are released. */
final class Refusals {
    interface VersionCall {
        Object of(VectorVersions x, int version);
    }

    interface PairCall {
        Object of(VectorVersions x, int version, int other);
    }

    private static final int[] FAR = {-1, -2, -40, 64, 138, 1000, Integer.MIN_VALUE, Integer.MAX_VALUE};

    private Refusals() {
    }

    private static void noVersion(String what, VersionCall call, VectorVersions x, int version) {
        Expect.noPlace(what + ", version " + version, () -> call.of(x, version));
    }

    private static void hasVersion(String what, VersionCall call, VectorVersions x, int version) {
        boolean refused = Expect.answer(() -> call.of(x, version)).equals("IndexOutOfBoundsException");
        Expect.same(what + ", version " + version + " is refused", false, refused);
    }

    /** The call throws an IndexOutOfBoundsException exactly for numbers that are not those of versions. */
    static void noVersion(VersionCall call) {
        VectorVersions fresh = new VectorVersions();
        for (int version : FAR) {
            noVersion("far off", call, fresh, version);
        }
        noVersion("just behind version 0", call, fresh, 1);
        hasVersion("of a new object", call, fresh, 0);
        noVersionBehindTheLatest(call);
        noVersionBehindForty(call);
        noVersionTakenBack(call);
    }

    private static void noVersionBehindTheLatest(VersionCall call) {
        VectorVersions x = new VectorVersions();
        x.truncate(0, 10);
        x.truncate(1, 10);
        noVersion("just behind the latest", call, x, 3);
        hasVersion("the latest", call, x, 2);
        VectorVersions y = new VectorVersions();
        y.truncate(0, 10);
        y.release(0);
        hasVersion("released", call, y, 0);
    }

    private static void noVersionBehindForty(VersionCall call) {
        VectorVersions x = Stores.withFortyVersions();
        noVersion("behind forty versions", call, x, 40);
        hasVersion("the last of forty", call, x, 39);
    }

    private static void noVersionTakenBack(VersionCall call) {
        VectorVersions undone = new VectorVersions();
        undone.truncate(0, 10);
        undone.undo();
        noVersion("undone", call, undone, 1);
        VectorVersions restored = new VectorVersions();
        restored.saveState();
        restored.truncate(0, 10);
        restored.restoreState();
        noVersion("behind a restored state", call, restored, 1);
        VectorVersions loaded = new VectorVersions();
        loaded.truncate(0, 10);
        Texts.load(loaded, "list 1 2 3 4 5 6 7 8 9 10;");
        noVersion("behind a new setup", call, loaded, 1);
    }

    /** The call throws an IndexOutOfBoundsException if either number is not that of a version, released or not. */
    static void noVersionOfTwo(PairCall call) {
        noVersion((x, version) -> call.of(x, version, 0));
        noVersion((x, version) -> call.of(x, 0, version));
        noVersion((x, version) -> call.of(x, version, version));
    }

    /** The call throws an IllegalStateException exactly while the version is released. */
    static void released(VersionCall call) {
        VectorVersions x = new VectorVersions();
        x.truncate(0, 10);
        x.release(0);
        Expect.badState("released", () -> call.of(x, 0));
        Expect.noException("live child of a released version", () -> call.of(x, 1));
        VectorVersions undone = new VectorVersions();
        undone.release(0);
        undone.undo();
        Expect.noException("its release is undone", () -> call.of(undone, 0));
        VectorVersions again = new VectorVersions();
        again.truncate(0, 10);
        again.release(1);
        again.undo();
        again.undo();
        again.truncate(0, 10);
        Expect.noException("new version with the number of a released one", () -> call.of(again, 1));
        releasedAndCollected(call);
        releasedAndRestored(call);
    }

    private static void releasedAndCollected(VersionCall call) {
        VectorVersions x = new VectorVersions();
        x.set(0, 0, 1);
        x.release(0);
        x.collect();
        Expect.badState("its nodes are collected", () -> call.of(x, 0));
        x.release(1);
        Expect.badState("all are released", () -> call.of(x, 1));
    }

    private static void releasedAndRestored(VersionCall call) {
        VectorVersions x = new VectorVersions();
        x.truncate(0, 10);
        x.release(1);
        x.saveState();
        x.undo();
        x.restoreState();
        Expect.badState("released in the restored state", () -> call.of(x, 1));
        VectorVersions y = new VectorVersions();
        y.saveState();
        y.release(0);
        y.restoreState();
        Expect.noException("not released in the restored state", () -> call.of(y, 0));
    }

    /** The call throws an IllegalStateException if one of the two versions is released, whichever it is. */
    static void releasedOfTwo(PairCall call) {
        released((x, version) -> call.of(x, version, version));
        VectorVersions x = new VectorVersions();
        x.truncate(0, 10);
        x.truncate(0, 10);
        x.release(1);
        Expect.badState("the first one", () -> call.of(x, 1, 0));
        Expect.badState("the second one", () -> call.of(x, 0, 1));
        Expect.noException("neither", () -> call.of(x, 0, 2));
    }

    private static void noNode(String what, VersionCall call, VectorVersions x, int node) {
        Expect.noPlace(what + ", node " + node, () -> call.of(x, node));
    }

    private static void hasNode(String what, VersionCall call, VectorVersions x, int node) {
        Expect.noException(what + ", node " + node, () -> call.of(x, node));
    }

    /** The call throws an IndexOutOfBoundsException exactly for numbers that are not those of stored nodes. */
    static void noNode(VersionCall call) {
        VectorVersions fresh = new VectorVersions();
        for (int node : FAR) {
            noNode("far off", call, fresh, node);
        }
        noNode("just behind the root", call, fresh, 4);
        hasNode("the root", call, fresh, 3);
        hasNode("the first leaf", call, fresh, 0);
        VectorVersions empty = Texts.loaded("list;");
        noNode("the empty vector", call, empty, 0);
        noNode("the root of the empty vector", call, empty, empty.rootOf(0));
        mostNodes(call);
        collectedNodes(call);
        nodesTakenBack(call);
    }

    private static void mostNodes(VersionCall call) {
        VectorVersions x = Stores.counting(64);
        for (int i = 1; i < 40; i++) {
            x.set(0, 63, -i);
        }
        hasNode("the last of 138 nodes", call, x, 137);
        noNode("behind 138 nodes", call, x, 138);
    }

    private static void collectedNodes(VersionCall call) {
        VectorVersions x = new VectorVersions();
        x.set(0, 0, 1);
        x.release(0);
        hasNode("garbage leaf", call, x, 0);
        hasNode("garbage root", call, x, 3);
        x.collect();
        noNode("collected leaf", call, x, 0);
        noNode("collected root", call, x, 3);
        hasNode("shared leaf", call, x, 1);
        hasNode("new root", call, x, 5);
        x.undo();
        hasNode("collecting undone", call, x, 3);
    }

    private static void nodesTakenBack(VersionCall call) {
        VectorVersions x = new VectorVersions();
        x.set(0, 0, 1);
        x.undo();
        noNode("undone", call, x, 4);
        x.saveState();
        x.set(0, 0, 1);
        x.restoreState();
        noNode("behind a restored state", call, x, 5);
        Texts.load(x, "list 1;");
        noNode("behind a new setup", call, x, 1);
        hasNode("of a new setup", call, x, 0);
    }
}
