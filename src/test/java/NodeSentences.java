/** Promises 22 to 32: created, stored, shared and garbage nodes, and what a node holds. */
final class NodeSentences {
    private static final String NO_VERSION = "Throws `IndexOutOfBoundsException` if there is no such version";
    private static final String NO_NODE = "Throws `IndexOutOfBoundsException` if no such node is stored";
    private static final String RELEASED = "Throws `IllegalStateException` if the version is released";

    private NodeSentences() {
    }

    static void hold(Sentences s) {
        counts(s);
        ofVersions(s);
        shared(s);
        single(s);
        references(s);
    }

    private static void counts(Sentences s) {
        s.hold("Promise 22", "Returns the number of nodes that were created.", NodeSentences::created);
        s.hold("Promise 22", "Returns the number of nodes since the setup, including those of version 0.",
            NodeSentences::createdSinceSetup);
        s.hold("Promise 23", "Returns the number of stored nodes.", NodeSentences::stored);
        s.hold("Promise 23", "Returns the number of created nodes that were not collected.", NodeSentences::notCollected);
        s.hold("Promise 24", "Returns the number of garbage nodes.", NodeSentences::garbage);
        s.hold("Promise 24", "Returns the number of stored nodes that no version that is not released can reach.",
            NodeSentences::notReached);
    }

    private static void ofVersions(Sentences s) {
        s.hold("Promise 25", "Returns the number of nodes that were created for a version.", NodeSentences::createdFor);
        s.hold("Promise 25", "Returns the number of nodes created when the version was made.",
            NodeSentences::createdWhenMade);
        s.hold("Promise 25", NO_VERSION, () -> Refusals.noVersion(VectorVersions::nodesCreatedFor));
        s.hold("Promise 26", "Returns the number of nodes of a version.", NodeSentences::nodesOf);
        s.hold("Promise 26", "Returns the number of nodes that it can reach.", NodeSentences::reachedBySizes);
        s.hold("Promise 26", NO_VERSION, () -> Refusals.noVersion(VectorVersions::nodesOf));
        s.hold("Promise 26", RELEASED, () -> Refusals.released(VectorVersions::nodesOf));
    }

    private static void shared(Sentences s) {
        s.hold("Promise 27", "Returns the number of nodes that two versions share.", NodeSentences::sharedNodes);
        s.hold("Promise 27", "`other`: number of another or the same version", NodeSentences::sharedWithItself);
        s.hold("Promise 27", "Returns the number of nodes that both can reach.", NodeSentences::reachedByBoth);
        s.hold("Promise 27", NO_VERSION + " (either)", () -> Refusals.noVersionOfTwo(VectorVersions::sharedNodes));
        s.hold("Promise 27", "Throws `IllegalStateException` if one of the versions is released",
            () -> Refusals.releasedOfTwo(VectorVersions::sharedNodes));
        s.hold("Promise 28", "Returns the number of nodes that only one version can reach.", NodeSentences::exclusive);
        s.hold("Promise 28", "Returns the number of nodes that it can reach and that no other version that is not released "
            + "can reach.", NodeSentences::exclusiveBounds);
        s.hold("Promise 28", NO_VERSION, () -> Refusals.noVersion(VectorVersions::exclusiveNodes));
        s.hold("Promise 28", RELEASED, () -> Refusals.released(VectorVersions::exclusiveNodes));
    }

    private static void single(Sentences s) {
        s.hold("Promise 29", "Tells whether a node is a leaf.", NodeSentences::isLeaf);
        s.hold("Promise 29", "Returns true for a leaf, false for an inner node.", NodeSentences::leafExactly);
        s.hold("Promise 29", NO_NODE, () -> Refusals.noNode(VectorVersions::isLeaf));
        s.hold("Promise 30", "Returns the number of entries of a node.", NodeSentences::entryCount);
        s.hold("Promise 30", "Returns the number of elements of a leaf, or of children of an inner node.",
            NodeSentences::entryBounds);
        s.hold("Promise 30", NO_NODE, () -> Refusals.noNode(VectorVersions::entryCount));
        s.hold("Promise 31", "Returns a child of a node.", NodeSentences::children);
        s.hold("Promise 31", "`position`: position among the children, starting at 0", NodeSentences::positions);
        s.hold("Promise 31", "Returns the number of the child, or NONE if the node is a leaf or has no such child.",
            NodeSentences::noChild);
        s.hold("Promise 31", NO_NODE, NodeSentences::childOfNoNode);
    }

    private static void references(Sentences s) {
        s.hold("Promise 32", "Returns the number of references to a node.", NodeSentences::referencesTo);
        s.hold("Promise 32", "Returns the number of versions that are not released whose root it is, plus the number of "
            + "stored inner nodes that have it as a child.", NodeSentences::referenceBounds);
        s.hold("Promise 32", NO_NODE, () -> Refusals.noNode(VectorVersions::referencesTo));
    }

    // ---- promises 22 to 24 ----

    private static void created() {
        VectorVersions x = new VectorVersions();
        Expect.same("new object", 4, x.createdNodes());
        x.set(0, 0, 1);
        Expect.same("set", 6, x.createdNodes());
        x.set(0, 0, 5);
        Expect.same("set to the same value", 6, x.createdNodes());
        x.append(0, 1);
        Expect.same("append", 8, x.createdNodes());
        x.truncate(0, 1);
        Expect.same("truncate", 9, x.createdNodes());
        x.release(0);
        x.collect();
        Expect.same("collected ones count", 9, x.createdNodes());
        x.undo();
        x.undo();
        x.undo();
        Expect.same("undone ones do not", 8, x.createdNodes());
    }

    private static void createdSinceSetup() {
        for (int size : Stores.EDGE_SIZES) {
            VectorVersions x = Stores.counting(64);
            x.set(0, 0, 9);
            Texts.load(x, Texts.counting(size));
            Expect.same("setup of " + size, Stores.nodesFor(size), x.createdNodes());
        }
        VectorVersions most = Stores.counting(64);
        for (int i = 0; i < 39; i++) {
            most.set(i, 0, 100 + i);
        }
        Expect.same("most", 21 + 3 * 39, most.createdNodes());
    }

    private static void stored() {
        VectorVersions x = new VectorVersions();
        Expect.same("new object", 4, x.storedNodes());
        x.append(0, 1);
        Expect.same("more", 6, x.storedNodes());
        x.undo();
        Expect.same("undone", 4, x.storedNodes());
        Expect.same("empty", 0, Stores.counting(0).storedNodes());
    }

    private static void notCollected() {
        VectorVersions x = new VectorVersions();
        x.append(0, 1);
        x.release(0);
        Expect.same("garbage is stored", 6, x.storedNodes());
        x.collect();
        Expect.same("collected", 4, x.storedNodes());
        x.release(1);
        x.collect();
        Expect.same("all are collected", 0, x.storedNodes());
        x.undo();
        Expect.same("collecting undone", 4, x.storedNodes());
        x.undo();
        x.undo();
        Expect.same("both undone", 6, x.storedNodes());
    }

    private static void garbage() {
        VectorVersions x = new VectorVersions();
        x.append(0, 1);
        Expect.same("none", 0, x.garbageNodes());
        x.release(1);
        Expect.same("leaf and root", 2, x.garbageNodes());
        x.release(0);
        Expect.same("all", 6, x.garbageNodes());
        x.collect();
        Expect.same("collected", 0, x.garbageNodes());
        x.undo();
        Expect.same("collecting undone", 6, x.garbageNodes());
    }

    private static void notReached() {
        VectorVersions x = Stores.counting(0);
        x.release(0);
        Expect.same("empty vector", 0, x.garbageNodes());
        VectorVersions y = Stores.withFortyVersions();
        for (int version = 0; version < 39; version++) {
            Expect.same("reached by another", 0, y.release(version));
        }
        Expect.same("the last that reached them", 4, y.release(39));
        VectorVersions z = Stores.counting(17);
        z.truncate(0, 16);
        z.truncate(0, 4);
        Expect.same("reached from below the root", 3, z.release(0));
        Expect.same("reached as a leaf", 7, z.release(1));
    }

    // ---- promises 25 and 26 ----

    private static void createdFor() {
        VectorVersions x = new VectorVersions();
        x.set(0, 0, 1);
        x.set(0, 0, 5);
        x.append(0, 1);
        x.truncate(0, 8);
        x.truncate(0, 0);
        x.append(5, 1);
        int[] due = {4, 2, 0, 2, 1, 0, 1};
        for (int version = 0; version < due.length; version++) {
            Expect.same("version " + version, due[version], x.nodesCreatedFor(version));
        }
    }

    private static void createdWhenMade() {
        VectorVersions x = new VectorVersions();
        x.append(0, 1);
        x.release(0);
        x.release(1);
        x.collect();
        Expect.same("released and collected, version 0", 4, x.nodesCreatedFor(0));
        Expect.same("released and collected, version 1", 2, x.nodesCreatedFor(1));
        for (int size : Stores.EDGE_SIZES) {
            Expect.same("setup of " + size, Stores.nodesFor(size), Stores.counting(size).nodesCreatedFor(0));
        }
        VectorVersions y = new VectorVersions();
        y.append(0, 1);
        y.undo();
        y.truncate(0, 10);
        Expect.same("another version with an old number", 0, y.nodesCreatedFor(1));
    }

    private static void nodesOf() {
        VectorVersions x = new VectorVersions();
        x.set(0, 0, 1);
        x.truncate(0, 4);
        x.truncate(0, 0);
        Expect.same("version 0", 4, x.nodesOf(0));
        Expect.same("old and new ones", 4, x.nodesOf(1));
        Expect.same("one leaf", 1, x.nodesOf(2));
        Expect.same("empty", 0, x.nodesOf(3));
    }

    private static void reachedBySizes() {
        for (int size = 0; size <= 64; size++) {
            for (VectorVersions x : Stores.ofSize(size)) {
                Expect.same("size " + size, Stores.nodesFor(size), x.nodesOf(Stores.latest(x)));
            }
        }
    }

    // ---- promises 27 and 28 ----

    private static void sharedNodes() {
        VectorVersions x = new VectorVersions();
        x.set(0, 0, 1);
        x.set(1, 9, 1);
        x.append(2, 1);
        Expect.same("two leaves", 2, x.sharedNodes(0, 1));
        Expect.same("one leaf", 1, x.sharedNodes(0, 2));
        Expect.same("other way round", 1, x.sharedNodes(2, 0));
        Expect.same("one leaf with the longer one", 1, x.sharedNodes(0, 3));
        x.set(3, 4, 1);
        Expect.same("none", 0, x.sharedNodes(0, 4));
    }

    private static void sharedWithItself() {
        for (int size : Stores.EDGE_SIZES) {
            Expect.same("all of " + size, Stores.nodesFor(size), Stores.counting(size).sharedNodes(0, 0));
        }
    }

    private static void reachedByBoth() {
        VectorVersions x = Stores.counting(64);
        x.truncate(0, 64);
        x.truncate(0, 16);
        x.truncate(0, 4);
        x.truncate(0, 0);
        Expect.same("same root", 21, x.sharedNodes(0, 1));
        Expect.same("branch", 5, x.sharedNodes(0, 2));
        Expect.same("leaf", 1, x.sharedNodes(0, 3));
        Expect.same("leaf of the branch", 1, x.sharedNodes(3, 2));
        Expect.same("empty", 0, x.sharedNodes(0, 4));
        Expect.same("empty first", 0, x.sharedNodes(4, 0));
        Expect.same("both empty", 0, x.sharedNodes(4, 4));
        x.set(0, 0, 99);
        x.set(5, 0, 0);
        Expect.same("equal elements in other nodes", 18, x.sharedNodes(0, 6));
    }

    private static void exclusive() {
        VectorVersions x = new VectorVersions();
        Expect.same("only version", 4, x.exclusiveNodes(0));
        x.set(0, 0, 1);
        Expect.same("leaf and root", 2, x.exclusiveNodes(0));
        Expect.same("leaf and root of the other", 2, x.exclusiveNodes(1));
        x.set(0, 9, 1);
        Expect.same("only the root", 1, x.exclusiveNodes(0));
    }

    private static void exclusiveBounds() {
        VectorVersions x = new VectorVersions();
        x.truncate(0, 10);
        Expect.same("same root", 0, x.exclusiveNodes(0));
        x.release(1);
        Expect.same("released versions do not count", 4, x.exclusiveNodes(0));
        x.truncate(0, 4);
        Expect.same("a leaf is shared", 3, x.exclusiveNodes(0));
        Expect.same("nothing of its own", 0, x.exclusiveNodes(2));
        x.release(0);
        Expect.same("garbage of others does not count", 1, x.exclusiveNodes(2));
        Expect.same("empty", 0, Stores.counting(0).exclusiveNodes(0));
        Expect.same("one of forty", 0, Stores.withFortyVersions().exclusiveNodes(39));
    }

    // ---- promises 29 to 31 ----

    private static void isLeaf() {
        VectorVersions x = new VectorVersions();
        Expect.same("leaf", true, x.isLeaf(0));
        Expect.same("last leaf", true, x.isLeaf(2));
        Expect.same("root", false, x.isLeaf(3));
        Expect.same("root that is a leaf", true, Stores.counting(1).isLeaf(0));
    }

    private static void leafExactly() {
        VectorVersions x = Stores.counting(64);
        for (int node = 0; node < 21; node++) {
            Expect.same("node " + node, node < 16, x.isLeaf(node));
        }
        x.append(x.truncate(0, 16), 1);
        Expect.same("new leaf", true, x.isLeaf(21));
        Expect.same("inner node with one child", false, x.isLeaf(22));
        Expect.same("new root", false, x.isLeaf(23));
        x.release(2);
        Expect.same("garbage leaf", true, x.isLeaf(21));
        Expect.same("garbage root", false, x.isLeaf(23));
    }

    private static void entryCount() {
        VectorVersions x = new VectorVersions();
        Expect.same("full leaf", 4, x.entryCount(0));
        Expect.same("last leaf", 2, x.entryCount(2));
        Expect.same("root", 3, x.entryCount(3));
        x.append(0, 1);
        Expect.same("longer leaf", 3, x.entryCount(4));
        Expect.same("old leaf", 2, x.entryCount(2));
        x.truncate(0, 5);
        Expect.same("shorter leaf", 1, x.entryCount(6));
        Expect.same("shorter root", 2, x.entryCount(7));
        x.set(0, 9, 1);
        Expect.same("set in a leaf", 2, x.entryCount(8));
    }

    private static void entryBounds() {
        for (int size = 1; size <= 16; size++) {
            VectorVersions x = Stores.counting(size);
            int leaves = (size + 3) / 4;
            Expect.same("last leaf for " + size, (size - 1) % 4 + 1, x.entryCount(leaves - 1));
            Expect.same("root for " + size, leaves == 1 ? size : leaves, x.entryCount(x.rootOf(0)));
        }
        VectorVersions x = Stores.counting(17);
        Expect.same("one child", 1, x.entryCount(6));
        Expect.same("two children", 2, x.entryCount(7));
        Expect.same("four children", 4, Stores.counting(64).entryCount(20));
    }

    private static void children() {
        VectorVersions x = new VectorVersions();
        x.set(0, 4, 1);
        Expect.same("children of the old root", "0 1 2", x.childOf(3, 0) + " " + x.childOf(3, 1) + " " + x.childOf(3, 2));
        Expect.same("children of the new root", "0 4 2", x.childOf(5, 0) + " " + x.childOf(5, 1) + " " + x.childOf(5, 2));
    }

    private static void positions() {
        VectorVersions x = Stores.counting(64);
        for (int position = 0; position < 4; position++) {
            Expect.same("position " + position, 16 + position, x.childOf(20, position));
        }
        Expect.same("position -1", -1, x.childOf(20, -1));
        Expect.same("position 4", -1, x.childOf(20, 4));
        Expect.same("position 5", -1, x.childOf(19, 5));
    }

    private static void noChild() {
        VectorVersions x = new VectorVersions();
        for (int position : new int[] {-1, 3, 4, 5, 64, Integer.MIN_VALUE, Integer.MAX_VALUE}) {
            Expect.same("root, position " + position, -1, x.childOf(3, position));
            Expect.same("leaf, position " + position, -1, x.childOf(0, position));
        }
        for (int position = 0; position < 4; position++) {
            Expect.same("leaf, position " + position, -1, x.childOf(1, position));
        }
        VectorVersions y = Stores.counting(17);
        Expect.same("only child", 4, y.childOf(6, 0));
        Expect.same("behind the only child", -1, y.childOf(6, 1));
        y.truncate(0, 5);
        Expect.same("behind a truncated node", -1, y.childOf(y.rootOf(1), 2));
    }

    private static void childOfNoNode() {
        Refusals.noNode((x, node) -> x.childOf(node, 0));
        Refusals.noNode((x, node) -> x.childOf(node, -1));
        Refusals.noNode((x, node) -> x.childOf(node, 4));
    }

    // ---- promise 32 ----

    private static void referencesTo() {
        VectorVersions x = new VectorVersions();
        Expect.same("root", 1, x.referencesTo(3));
        Expect.same("leaf", 1, x.referencesTo(0));
        x.set(0, 9, 1);
        Expect.same("leaf of two roots", 2, x.referencesTo(0));
        Expect.same("new leaf", 1, x.referencesTo(4));
        Expect.same("old leaf", 1, x.referencesTo(2));
    }

    private static void referenceBounds() {
        VectorVersions x = Stores.withFortyVersions();
        Expect.same("root of forty versions", 40, x.referencesTo(3));
        Expect.same("child of one root", 1, x.referencesTo(0));
        x.release(7);
        Expect.same("root of 39 live versions", 39, x.referencesTo(3));
        VectorVersions y = new VectorVersions();
        y.truncate(0, 4);
        y.append(0, 1);
        Expect.same("one version and two inner nodes", 3, y.referencesTo(0));
        y.release(1);
        Expect.same("a released version does not count", 2, y.referencesTo(0));
        y.release(0);
        Expect.same("a garbage node counts", 2, y.referencesTo(0));
        Expect.same("garbage that nothing refers to", 0, y.referencesTo(3));
        Expect.same("garbage that garbage refers to", 1, y.referencesTo(2));
        y.collect();
        Expect.same("a collected node does not count", 1, y.referencesTo(0));
        y.undo();
        Expect.same("collecting undone", 2, y.referencesTo(0));
        VectorVersions z = Texts.loaded("list 2 1 0 2 2 1 0 2;");
        for (int node = 0; node < 3; node++) {
            Expect.same("elements are no references, node " + node, 1, z.referencesTo(node));
        }
    }
}
