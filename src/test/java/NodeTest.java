/** Promises 22 to 32: created, stored, shared and garbage nodes, and what a node holds. */
public final class NodeTest {
    private NodeTest() {
    }

    public static void main(String[] args) {
        createdAndStored();
        createdForVersions();
        treesOfVersions();
        sharing();
        exclusive();
        shapes();
        references();
        missingVersions();
        missingNodes();
        Expect.finish("NodeTest");
    }

    private static void createdAndStored() {
        VectorVersions x = new VectorVersions();
        x.set(0, 0, 1);
        Expect.same("22 created", 6, x.createdNodes());
        Expect.same("23 stored", 6, x.storedNodes());
        Expect.same("24 no garbage", 0, x.garbageNodes());
        x.release(0);
        Expect.same("24 leaf and root", 2, x.garbageNodes());
        Expect.same("23 garbage is stored", 6, x.storedNodes());
        x.collect();
        Expect.same("22 collected nodes count", 6, x.createdNodes());
        Expect.same("23 without the collected", 4, x.storedNodes());
        Expect.same("24 collected", 0, x.garbageNodes());
        x.release(1);
        Expect.same("24 all", 4, x.garbageNodes());
        x.collect();
        Expect.same("23 none", 0, x.storedNodes());
        x.undo();
        Expect.same("23 collect undone", 4, x.storedNodes());
        Expect.same("24 collect undone", 4, x.garbageNodes());
        Expect.same("22 empty setup", 0, Texts.loaded("").createdNodes());
        Expect.same("22 full setup", 21, Texts.loaded(Texts.counting(64)).createdNodes());
    }

    private static void createdForVersions() {
        VectorVersions x = new VectorVersions();
        x.set(0, 0, 5);
        x.set(0, 0, 6);
        x.truncate(0, 0);
        x.append(3, 1);
        x.truncate(0, 10);
        x.release(2);
        int[] due = {4, 0, 2, 0, 1, 0};
        for (int version = 0; version < due.length; version++) {
            Expect.same("25 version " + version, due[version], x.nodesCreatedFor(version));
        }
    }

    private static void treesOfVersions() {
        int[] sizes = {0, 1, 4, 5, 16, 17, 20, 21, 33, 64};
        int[] nodes = {0, 1, 1, 3, 5, 8, 8, 9, 13, 21};
        VectorVersions x = Texts.loaded(Texts.counting(64));
        for (int i = 0; i < sizes.length; i++) {
            Expect.same("26 of a setup", nodes[i], Texts.loaded(Texts.counting(sizes[i])).nodesOf(0));
            int version = x.truncate(0, sizes[i]);
            Expect.same("26 of a truncated version", nodes[i], x.nodesOf(version));
        }
    }

    private static void sharing() {
        VectorVersions x = new VectorVersions();
        x.set(0, 5, 20);
        x.set(1, 5, 20);
        x.append(1, 6);
        x.truncate(0, 0);
        x.truncate(0, 4);
        Expect.same("27 one leaf other", 2, x.sharedNodes(0, 1));
        Expect.same("27 other way round", 2, x.sharedNodes(1, 0));
        Expect.same("27 all", 4, x.sharedNodes(1, 2));
        Expect.same("27 same version", 4, x.sharedNodes(0, 0));
        Expect.same("27 one common leaf", 1, x.sharedNodes(0, 3));
        Expect.same("27 empty", 0, x.sharedNodes(0, 4));
        Expect.same("27 both empty", 0, x.sharedNodes(4, 4));
        Expect.same("27 different heights", 1, x.sharedNodes(0, 5));
    }

    private static void exclusive() {
        VectorVersions x = new VectorVersions();
        Expect.same("28 only version", 4, x.exclusiveNodes(0));
        x.set(0, 5, 20);
        Expect.same("28 two", 2, x.exclusiveNodes(0));
        Expect.same("28 two", 2, x.exclusiveNodes(1));
        x.truncate(1, 10);
        Expect.same("28 none", 0, x.exclusiveNodes(1));
        x.release(1);
        Expect.same("28 released versions do not count", 2, x.exclusiveNodes(2));
        x.release(0);
        Expect.same("28 last one", 4, x.exclusiveNodes(2));
        x.truncate(2, 0);
        Expect.same("28 empty", 0, x.exclusiveNodes(3));
        Expect.same("28 garbage does not count", 4, x.exclusiveNodes(2));
    }

    private static void shapes() {
        VectorVersions x = new VectorVersions();
        Expect.same("29 leaf", true, x.isLeaf(0));
        Expect.same("29 inner node", false, x.isLeaf(3));
        Expect.same("29 root that is a leaf", true, Texts.loaded("list 1;").isLeaf(0));
        Expect.same("30 full leaf", 4, x.entryCount(0));
        Expect.same("30 last leaf", 2, x.entryCount(2));
        Expect.same("30 inner node", 3, x.entryCount(3));
        Expect.same("31 first", 0, x.childOf(3, 0));
        Expect.same("31 last", 2, x.childOf(3, 2));
        Expect.same("31 behind the last", -1, x.childOf(3, 3));
        Expect.same("31 far behind", -1, x.childOf(3, 4));
        Expect.same("31 before the first", -1, x.childOf(3, -1));
        Expect.same("31 greatest int", -1, x.childOf(3, Integer.MAX_VALUE));
        Expect.same("31 smallest int", -1, x.childOf(3, Integer.MIN_VALUE));
        Expect.same("31 leaf", -1, x.childOf(0, 0));
        x.set(0, 9, 0);
        Expect.same("31 shared child", 1, x.childOf(5, 1));
        Expect.same("31 new child", 4, x.childOf(5, 2));
        Expect.same("31 old node", 2, x.childOf(3, 2));
        shapesOfGarbage();
    }

    private static void shapesOfGarbage() {
        VectorVersions x = new VectorVersions();
        x.set(0, 9, 0);
        x.release(0);
        Expect.same("29 garbage", false, x.isLeaf(3));
        Expect.same("30 garbage", 2, x.entryCount(2));
        Expect.same("31 garbage", 1, x.childOf(3, 1));
        Expect.same("32 from garbage", 2, x.referencesTo(1));
        Expect.same("32 garbage from garbage", 1, x.referencesTo(2));
        Expect.same("32 garbage root", 0, x.referencesTo(3));
    }

    private static void references() {
        VectorVersions x = new VectorVersions();
        Expect.same("32 root", 1, x.referencesTo(3));
        Expect.same("32 child", 1, x.referencesTo(0));
        x.truncate(0, 10);
        Expect.same("32 two roots", 2, x.referencesTo(3));
        Expect.same("32 child of one root", 1, x.referencesTo(0));
        x.truncate(0, 4);
        Expect.same("32 root and child", 2, x.referencesTo(0));
        x.append(0, 1);
        Expect.same("32 two parents and a root", 3, x.referencesTo(0));
        x.release(2);
        Expect.same("32 released root", 2, x.referencesTo(0));
        x.release(0);
        x.release(1);
        Expect.same("32 stored garbage refers", 2, x.referencesTo(0));
        x.collect();
        Expect.same("32 collected nodes do not", 1, x.referencesTo(0));
    }

    private static void missingVersions() {
        VectorVersions x = new VectorVersions();
        x.set(0, 0, 1);
        x.release(0);
        for (int version : new int[] {-1, 2, 40, Integer.MIN_VALUE, Integer.MAX_VALUE}) {
            Expect.noPlace("25 nodesCreatedFor", () -> x.nodesCreatedFor(version));
            Expect.noPlace("26 nodesOf", () -> x.nodesOf(version));
            Expect.noPlace("27 sharedNodes", () -> x.sharedNodes(version, 0));
            Expect.noPlace("27 sharedNodes", () -> x.sharedNodes(0, version));
            Expect.noPlace("28 exclusiveNodes", () -> x.exclusiveNodes(version));
        }
        Expect.same("25 released", 4, x.nodesCreatedFor(0));
        Expect.badState("26 released", () -> x.nodesOf(0));
        Expect.badState("27 released", () -> x.sharedNodes(0, 1));
        Expect.badState("27 released other", () -> x.sharedNodes(1, 0));
        Expect.badState("28 released", () -> x.exclusiveNodes(0));
    }

    private static void missingNodes() {
        VectorVersions x = new VectorVersions();
        x.set(0, 0, 1);
        x.release(0);
        x.collect();
        for (int node : new int[] {-1, 0, 3, 6, 138, 1000, Integer.MIN_VALUE, Integer.MAX_VALUE}) {
            Expect.noPlace("29 isLeaf", () -> x.isLeaf(node));
            Expect.noPlace("30 entryCount", () -> x.entryCount(node));
            Expect.noPlace("31 childOf", () -> x.childOf(node, 0));
            Expect.noPlace("32 referencesTo", () -> x.referencesTo(node));
        }
        x.undo();
        Expect.same("29 stored again", true, x.isLeaf(0));
        x.undo();
        x.undo();
        Expect.noPlace("29 undone node", () -> x.isLeaf(4));
    }
}
