import java.util.List;

/** What the document is, and its terms: vectors, versions, nodes, path copying and garbage. */
final class VectorSentences {
    private static final String TERMS = "Terms";

    private VectorSentences() {
    }

    static void hold(Sentences s) {
        s.hold("What it is",
            "A store of persistent vectors that copies paths of a tree and keeps all versions until they are released.",
            VectorSentences::oldVersionsStay);
        s.hold("What it is",
            "An object is used for at most 512 calls after it has been made; what later calls answer is free.",
            VectorSentences::lastCalls);
        vectors(s);
        versions(s);
        nodes(s);
        pathCopying(s);
        garbage(s);
    }

    private static void vectors(Sentences s) {
        s.hold(TERMS, "A vector has 0 to 64 elements, which are integers from -999 to 999, with indexes from 0.",
            VectorSentences::boundsOfVectors);
        s.hold(TERMS, "The elements of a vector that is not empty are held by a tree.", VectorSentences::held);
        s.hold(TERMS, "A leaf has 1 to 4 elements, an inner node has 1 to 4 children.", VectorSentences::entries);
        s.hold(TERMS, "All leaves of a tree have the same depth.", VectorSentences::depths);
        s.hold(TERMS, "From left to right, the leaves hold the elements in order, and every node except those on the path "
            + "to the last element is full: it has 4 entries, and so have all nodes below it.", VectorSentences::fullNodes);
        s.hold(TERMS, "The height is the number of nodes on a path from the root to a leaf.",
            VectorSentences::heightIsDepth);
        s.hold(TERMS, "It is the smallest height h with which the tree can hold the elements: 4 to the power of h is at "
            + "least the size.", VectorSentences::smallestHeight);
        s.hold(TERMS, "The empty vector has no node, and its height is 0.", VectorSentences::emptyVector);
    }

    private static void versions(Sentences s) {
        s.hold(TERMS, "There are at most 40 versions, numbered from 0 in the order in which they were made.",
            VectorSentences::fortyVersions);
        s.hold(TERMS, "Version 0 is made by the setup.", VectorSentences::versionOfSetup);
        s.hold(TERMS, "Every other version is made from a version that is not released, its parent.",
            VectorSentences::parents);
        s.hold(TERMS, "A version can be released; it can't be read after that.", VectorSentences::noReading);
    }

    private static void nodes(Sentences s) {
        s.hold(TERMS, "Nodes are never changed; they are numbered from 0 in the order in which they were created, and a "
            + "number is never used again.", VectorSentences::numbersOfNodes);
        s.hold(TERMS, "When version 0 is made, its nodes are created level by level, the leaves first and from left to "
            + "right on each level, the root last.", VectorSentences::nodesOfSetup);
    }

    private static void pathCopying(Sentences s) {
        s.hold(TERMS, "A new version uses all nodes of its parent that it can use as they are.",
            VectorSentences::usedNodes);
        s.hold(TERMS, "The new nodes of a version are created from the leaf up to the root.", VectorSentences::leafFirst);
        s.hold(TERMS, "Setting an element to the value that it has creates no node; the new version has the same root.",
            VectorSentences::sameValue);
        s.hold(TERMS, "Otherwise a new node is created for each node on the path from the root to the element, and the new "
            + "nodes refer to the old ones beside the path.", VectorSentences::otherValue);
        s.hold(TERMS, "Appending an element to a full tree (the size is 4 to the power of the height) makes a root of the "
            + "next height with the old root as its first child.", VectorSentences::fullTree);
        s.hold(TERMS, "Appending creates a new node for each node on the path from the new root to the new element, "
            + "whether there was a node at this place before or not.", VectorSentences::appendedPath);
        s.hold(TERMS, "Appending to the empty vector creates one leaf.", VectorSentences::appendedToEmpty);
        s.hold(TERMS, "Truncating to the same size creates no node, and the new version has the same root.",
            VectorSentences::sameSize);
        s.hold(TERMS, "Truncating to 0 creates no node.", VectorSentences::sizeZero);
        s.hold(TERMS, "Otherwise the height becomes the smallest height that can hold the new size.",
            VectorSentences::truncatedHeight);
        s.hold(TERMS, "Then a node on the path from the root of this height to the last element is used as it is if it has "
            + "no entry behind this path, neither itself nor in the nodes below it; the other nodes on this path are created "
            + "anew without the entries behind the path.", VectorSentences::truncatedPath);
    }

    private static void garbage(Sentences s) {
        s.hold(TERMS, "A node is garbage if no version that is not released can reach it.", VectorSentences::whatIsGarbage);
        s.hold(TERMS, "Garbage stays stored until it is collected.", VectorSentences::storedGarbage);
    }

    // ---- what it is ----

    private static void oldVersionsStay() {
        VectorVersions x = new VectorVersions();
        x.set(0, 9, 100);
        x.append(1, 8);
        x.truncate(2, 3);
        x.set(3, 0, -1);
        Expect.same("version 0", "5 -2 7 7 0 12 3 1 9 4", Stores.elements(x, 0));
        Expect.same("set", "5 -2 7 7 0 12 3 1 9 100", Stores.elements(x, 1));
        Expect.same("append", "5 -2 7 7 0 12 3 1 9 100 8", Stores.elements(x, 2));
        Expect.same("truncate", "5 -2 7", Stores.elements(x, 3));
        Expect.same("set in a short one", "-1 -2 7", Stores.elements(x, 4));
    }

    private static void lastCalls() {
        VectorVersions x = new VectorVersions();
        for (int call = 1; call <= 508; call += 4) {
            Expect.same("call " + call, 1, x.append(0, call));
            Expect.same("call " + (call + 1), 2, x.saveState());
            Expect.same("call " + (call + 2), call, x.get(1, 10));
            Expect.same("call " + (call + 3), 0, x.undo());
        }
        Expect.same("call 509", 2, x.restoreState());
        Expect.same("call 510", 2, x.set(1, 10, -5));
        Expect.same("call 511", 23 + 4, x.writeVersion(1));
        Expect.same("call 512", 505, x.get(1, 10));
        manyChanges();
    }

    private static void manyChanges() {
        VectorVersions x = new VectorVersions();
        for (int i = 0; i < 511; i++) {
            Expect.same("collecting " + i, 0, x.collect());
        }
        Expect.same("undoing as call 512", 7, x.undo());
    }

    // ---- vectors ----

    private static void boundsOfVectors() {
        Expect.same("0 elements by a setup", 0, Stores.counting(0).size(0));
        VectorVersions x = Stores.counting(63);
        Expect.same("64th element", 1, x.append(0, -999));
        Expect.same("64 elements", 64, x.size(1));
        Expect.badState("65th element", () -> x.append(1, 0));
        x.set(1, 63, 999);
        Expect.same("-999", -999, x.get(1, 63));
        Expect.same("999", 999, x.get(2, 63));
        Expect.badArgument("-1000", () -> x.set(1, 63, -1000));
        Expect.badArgument("1000", () -> x.set(1, 63, 1000));
        Expect.badArgument("-1000 appended", () -> x.append(0, -1000));
        Expect.badArgument("1000 appended", () -> x.append(0, 1000));
        Expect.same("index 0", 0, x.get(1, 0));
        Expect.noPlace("index -1", () -> x.get(1, -1));
        Expect.noPlace("index 64", () -> x.get(1, 64));
        Expect.noPlace("index 63 of 63 elements", () -> x.get(0, 63));
        x.truncate(2, 0);
        Expect.same("0 elements by truncating", 0, x.size(3));
        Expect.noPlace("index 0 of 0 elements", () -> x.get(3, 0));
        Expect.badArgument("less than 0 elements", () -> x.truncate(3, -1));
    }

    private static void held() {
        for (int size = 1; size <= 64; size++) {
            VectorVersions x = Stores.counting(size);
            Expect.same("root of " + size, true, x.rootOf(0) >= 0);
            int elements = 0;
            for (int leaf : new Shape(x, 0).leaves) {
                elements += x.entryCount(leaf);
            }
            Expect.same("elements in the tree of " + size, size, elements);
        }
    }

    private static void entries() {
        for (int size = 1; size <= 64; size++) {
            for (VectorVersions x : Stores.ofSize(size)) {
                Shape shape = new Shape(x, Stores.latest(x));
                for (int leaf : shape.leaves) {
                    Expect.same("leaf for " + size, true, x.entryCount(leaf) >= 1 && x.entryCount(leaf) <= 4);
                }
                for (int node : shape.inner) {
                    Expect.same("inner node for " + size, true, x.entryCount(node) >= 1 && x.entryCount(node) <= 4);
                }
            }
        }
        VectorVersions x = Stores.counting(17);
        Expect.same("leaf with 1 element", 1, x.entryCount(x.leafOf(0, 16)));
        Expect.same("inner node with 1 child", 1, x.entryCount(x.childOf(x.rootOf(0), 1)));
        Expect.same("leaf with 4 elements", 4, x.entryCount(x.leafOf(0, 15)));
        Expect.same("inner node with 4 children", 4, x.entryCount(x.childOf(x.rootOf(0), 0)));
    }

    private static void depths() {
        for (int size = 1; size <= 64; size++) {
            for (VectorVersions x : Stores.ofSize(size)) {
                List<Integer> depths = new Shape(x, Stores.latest(x)).depths;
                for (int depth : depths) {
                    Expect.same("leaf for " + size, depths.get(0), depth);
                }
            }
        }
    }

    private static void fullNodes() {
        for (int size = 1; size <= 64; size++) {
            for (VectorVersions x : Stores.ofSize(size)) {
                int version = Stores.latest(x);
                Shape shape = new Shape(x, version);
                List<Integer> all = new java.util.ArrayList<>(shape.leaves);
                all.addAll(shape.inner);
                all.removeAll(shape.lastPath);
                for (int node : all) {
                    Expect.same("node beside the last path for " + size, 4, x.entryCount(node));
                }
                for (int index = 0; index < size; index++) {
                    Expect.same("element " + index + " of " + size, index, x.get(version, index));
                }
                for (int index = 0; index < size; index += 4) {
                    Expect.same("leaf of " + index, shape.leaves.get(index / 4), x.leafOf(version, index));
                }
            }
        }
    }

    private static void heightIsDepth() {
        for (int size = 1; size <= 64; size++) {
            for (VectorVersions x : Stores.ofSize(size)) {
                Shape shape = new Shape(x, Stores.latest(x));
                Expect.same("height for " + size, shape.depths.get(0), x.height(Stores.latest(x)));
            }
        }
    }

    private static void smallestHeight() {
        for (int size : Stores.EDGE_SIZES) {
            for (VectorVersions x : Stores.ofSize(size)) {
                Expect.same("height for " + size, Stores.heightFor(size), x.height(Stores.latest(x)));
            }
        }
    }

    private static void emptyVector() {
        for (VectorVersions x : Stores.ofSize(0)) {
            int version = Stores.latest(x);
            Expect.same("height", 0, x.height(version));
            Expect.same("root", -1, x.rootOf(version));
            Expect.same("nodes", 0, x.nodesOf(version));
        }
        Expect.same("no node is created", 0, Stores.counting(0).createdNodes());
        Expect.same("no node is stored", 0, Stores.counting(0).storedNodes());
    }

    // ---- versions ----

    private static void fortyVersions() {
        VectorVersions x = new VectorVersions();
        for (int i = 1; i < 40; i++) {
            int made = i % 3 == 0 ? x.set(0, 0, i) : i % 3 == 1 ? x.append(0, i) : x.truncate(0, 5);
            Expect.same("in order", i, made);
        }
        Expect.same("forty", 40, x.versionCount());
        Expect.badState("41st by set", () -> x.set(0, 0, 1));
        Expect.badState("41st by set to the same value", () -> x.set(0, 0, 5));
        Expect.badState("41st by append", () -> x.append(0, 1));
        Expect.badState("41st by truncate", () -> x.truncate(0, 1));
        Expect.badState("41st by truncate to the same size", () -> x.truncate(0, 10));
        Expect.same("41st by a script", 0, Texts.run(x, "truncate 0 0;"));
        for (int version = 1; version < 40; version++) {
            x.release(version);
        }
        x.collect();
        Expect.badState("41st, although 39 are released", () -> x.append(0, 1));
        Expect.same("still forty", 40, x.versionCount());
        fortyVersionsWithMostNodes();
    }

    private static void fortyVersionsWithMostNodes() {
        VectorVersions x = Stores.counting(64);
        for (int i = 1; i < 40; i++) {
            x.set(i - 1, 63, 500 + i);
        }
        Expect.same("three nodes each", 21 + 39 * 3, x.createdNodes());
        Expect.same("last root", 137, x.rootOf(39));
        Expect.same("children of the last root", "16 17 18 136",
            x.childOf(137, 0) + " " + x.childOf(137, 1) + " " + x.childOf(137, 2) + " " + x.childOf(137, 3));
        Expect.same("entries of the last root", 4, x.entryCount(137));
        Expect.same("last element of the last version", 539, x.get(39, 63));
        Expect.same("first element of the last version", 0, x.get(39, 0));
        Expect.same("all are garbage", 138, releaseAll(x));
        Expect.same("all are collected", 138, x.collect());
        x.undo();
        Expect.same("collecting is undone", 138, x.storedNodes());
    }

    private static int releaseAll(VectorVersions x) {
        int garbage = 0;
        for (int version = 0; version < x.versionCount(); version++) {
            garbage = x.release(version);
        }
        return garbage;
    }

    private static void versionOfSetup() {
        Expect.same("of a new object", 1, new VectorVersions().versionCount());
        VectorVersions x = Texts.loaded("list 8;list minus 9;");
        Expect.same("of a loaded setup", "8 -9", Stores.elements(x, 0));
        Expect.same("it alone", 1, x.versionCount());
        Expect.same("no parent", -1, x.parentOf(0));
    }

    private static void parents() {
        VectorVersions x = new VectorVersions();
        x.set(0, 0, 1);
        x.append(1, 1);
        x.truncate(2, 1);
        for (int version = 1; version <= 3; version++) {
            Expect.same("parent", version - 1, x.parentOf(version));
        }
        x.release(2);
        Expect.badState("set", () -> x.set(2, 0, 1));
        Expect.badState("append", () -> x.append(2, 1));
        Expect.badState("truncate", () -> x.truncate(2, 0));
        Expect.same("script", 0, Texts.run(x, "append 2 1;"));
        Expect.same("no version is made", 4, x.versionCount());
        Expect.same("child of a released one's child", 4, x.append(3, 1));
    }

    private static void noReading() {
        VectorVersions x = new VectorVersions();
        x.truncate(0, 9);
        x.release(0);
        Expect.badState("size", () -> x.size(0));
        Expect.badState("height", () -> x.height(0));
        Expect.badState("rootOf", () -> x.rootOf(0));
        Expect.badState("get", () -> x.get(0, 0));
        Expect.badState("leafOf", () -> x.leafOf(0, 0));
        Expect.badState("sum", () -> x.sum(0));
        Expect.badState("indexOf", () -> x.indexOf(0, 5));
        Expect.badState("nodesOf", () -> x.nodesOf(0));
        Expect.badState("sharedNodes", () -> x.sharedNodes(0, 1));
        Expect.badState("exclusiveNodes", () -> x.exclusiveNodes(0));
        Expect.badState("differences", () -> x.differences(1, 0));
        Expect.badState("firstDifference", () -> x.firstDifference(1, 0));
        Expect.badState("comparisonCost", () -> x.comparisonCost(1, 0));
        Expect.badState("nodesForSet", () -> x.nodesForSet(0, 0, 0));
        Expect.badState("nodesForAppend", () -> x.nodesForAppend(0));
        Expect.badState("garbageIfReleased", () -> x.garbageIfReleased(0));
        Expect.badState("writeVersion", () -> x.writeVersion(0));
        Expect.badState("release", () -> x.release(0));
        Expect.same("its child can be read", 9, x.size(1));
    }

    // ---- nodes ----

    private static void numbersOfNodes() {
        VectorVersions x = new VectorVersions();
        x.set(0, 9, 1);
        x.append(0, 1);
        x.truncate(0, 9);
        Expect.same("last leaf of version 0", 2, x.entryCount(2));
        Expect.same("root of version 0", "0 1 2", x.childOf(3, 0) + " " + x.childOf(3, 1) + " " + x.childOf(3, 2));
        Expect.same("elements of version 0", 4, x.get(0, 9));
        Expect.same("in order", "4 5 6 7 8 9", x.leafOf(1, 9) + " " + x.rootOf(1) + " " + x.leafOf(2, 9) + " " + x.rootOf(2)
            + " " + x.leafOf(3, 8) + " " + x.rootOf(3));
        for (int version = 0; version < 4; version++) {
            x.release(version);
        }
        Expect.same("all are collected", 10, x.collect());
        Expect.noPlace("a collected number", () -> x.isLeaf(9));
        VectorVersions y = new VectorVersions();
        y.set(0, 0, 1);
        y.release(1);
        y.collect();
        y.append(0, 2);
        Expect.same("collected numbers are not used again", 7, y.rootOf(2));
        Expect.noPlace("nor stored again", () -> y.entryCount(5));
        y.release(2);
        y.collect();
        y.truncate(0, 1);
        Expect.same("nor later", 8, y.rootOf(3));
    }

    private static void nodesOfSetup() {
        VectorVersions x = Stores.counting(64);
        for (int leaf = 0; leaf < 16; leaf++) {
            Expect.same("leaf", leaf, x.leafOf(0, 4 * leaf));
            Expect.same("inner node", leaf, x.childOf(16 + leaf / 4, leaf % 4));
        }
        for (int i = 0; i < 4; i++) {
            Expect.same("child of the root", 16 + i, x.childOf(20, i));
        }
        Expect.same("root last", 20, x.rootOf(0));
        for (int size : Stores.EDGE_SIZES) {
            VectorVersions y = Stores.counting(size);
            Expect.same("root for " + size, Stores.nodesFor(size) - 1, y.rootOf(0));
            Expect.same("nodes for " + size, Stores.nodesFor(size), y.createdNodes());
            for (int index = 0; index < size; index++) {
                Expect.same("leaf for " + index + " of " + size, index / 4, y.leafOf(0, index));
            }
        }
    }

    // ---- path copying ----

    private static void usedNodes() {
        for (int size : Stores.EDGE_SIZES) {
            VectorVersions x = Stores.counting(size);
            int nodes = Stores.nodesFor(size);
            int height = Stores.heightFor(size);
            if (size > 0) {
                x.set(0, size - 1, 999);
                Expect.same("set in " + size, nodes - height, x.sharedNodes(0, 1));
                x.undo();
            }
            x.truncate(0, size);
            Expect.same("truncate to the same size " + size, nodes, x.sharedNodes(0, 1));
            if (size < 64) {
                x.append(1, 999);
                Expect.same("append to " + size, x.nodesOf(2) - x.nodesCreatedFor(2), x.sharedNodes(1, 2));
            }
        }
        VectorVersions x = Stores.counting(64);
        x.truncate(0, 40);
        Expect.same("truncate to 40: all leaves and two branches", 12, x.sharedNodes(0, 1));
    }

    private static void leafFirst() {
        VectorVersions x = Stores.counting(64);
        x.set(0, 20, 999);
        Expect.same("set, leaf", 21, x.leafOf(1, 20));
        Expect.same("set, inner node", 22, x.childOf(x.rootOf(1), 1));
        Expect.same("set, root", 23, x.rootOf(1));
        x.truncate(0, 18);
        Expect.same("truncate, leaf", 24, x.leafOf(2, 17));
        Expect.same("truncate, inner node", 25, x.childOf(x.rootOf(2), 1));
        Expect.same("truncate, root", 26, x.rootOf(2));
        x.append(2, 999);
        Expect.same("append, leaf", 27, x.leafOf(3, 18));
        Expect.same("append, inner node", 28, x.childOf(x.rootOf(3), 1));
        Expect.same("append, root", 29, x.rootOf(3));
        x.truncate(0, 16);
        x.append(4, 999);
        Expect.same("new height, leaf", 30, x.leafOf(5, 16));
        Expect.same("new height, inner node", 31, x.childOf(x.rootOf(5), 1));
        Expect.same("new height, root", 32, x.rootOf(5));
    }

    private static void sameValue() {
        for (int size : Stores.EDGE_SIZES) {
            for (int index = 0; index < size; index += Math.max(size - 1, 1)) {
                VectorVersions x = Stores.counting(size);
                Expect.same("forecast", 0, x.nodesForSet(0, index, index));
                Expect.same("new version", 1, x.set(0, index, index));
                Expect.same("no node for " + index + " of " + size, 0, x.nodesCreatedFor(1));
                Expect.same("same root for " + index + " of " + size, x.rootOf(0), x.rootOf(1));
                Expect.same("created", Stores.nodesFor(size), x.createdNodes());
            }
        }
        VectorVersions x = Texts.loaded("list minus 999 minus 1 0 999;");
        int[] values = {-999, -1, 0, 999};
        for (int i = 0; i < 4; i++) {
            x.set(0, i, values[i]);
            Expect.same("value " + values[i], 0, x.nodesCreatedFor(i + 1));
            Expect.same("value " + values[i], 0, x.rootOf(i + 1));
        }
        Texts.run(x, "set 0 2 minus 0;set 0 0 minus 999;");
        Expect.same("by a script", 1, x.createdNodes());
    }

    private static void otherValue() {
        for (int size : Stores.EDGE_SIZES) {
            for (int index = 0; index < size; index += Math.max(size - 1, 1)) {
                VectorVersions x = Stores.counting(size);
                x.set(0, index, -1);
                Expect.same("nodes for " + index + " of " + size, Stores.heightFor(size), x.nodesCreatedFor(1));
                Expect.same("root", x.createdNodes() - 1, x.rootOf(1));
                for (int other = 0; other < size; other += 4) {
                    int due = other / 4 == index / 4 ? Stores.nodesFor(size) : other / 4;
                    Expect.same("leaf of " + other, due, x.leafOf(1, other));
                }
            }
        }
        VectorVersions x = Stores.counting(64);
        x.set(0, 63, -1);
        for (int i = 0; i < 3; i++) {
            Expect.same("old branch", 16 + i, x.childOf(23, i));
            Expect.same("old leaf", 12 + i, x.childOf(22, i));
        }
        Expect.same("old element beside", 62, x.get(1, 62));
    }

    private static void fullTree() {
        int[] sizes = {4, 16};
        for (int size : sizes) {
            VectorVersions x = Stores.counting(size);
            int height = x.height(0);
            x.append(0, 999);
            Expect.same("next height for " + size, height + 1, x.height(1));
            Expect.same("old root for " + size, x.rootOf(0), x.childOf(x.rootOf(1), 0));
            Expect.same("two children for " + size, 2, x.entryCount(x.rootOf(1)));
            Expect.same("new nodes for " + size, height + 1, x.nodesCreatedFor(1));
            Expect.same("new element for " + size, 999, x.get(1, size));
        }
        int[] notFull = {1, 3, 5, 15, 17, 63};
        for (int size : notFull) {
            VectorVersions x = Stores.counting(size);
            x.append(0, 999);
            Expect.same("no next height for " + size, x.height(0), x.height(1));
        }
        Expect.badState("no next height for 64", () -> Stores.counting(64).append(0, 1));
    }

    private static void appendedPath() {
        for (int size = 1; size < 64; size++) {
            VectorVersions x = Stores.counting(size);
            x.append(0, 999);
            Expect.same("nodes for element " + size, Stores.heightFor(size + 1), x.nodesCreatedFor(1));
            int before = Stores.nodesFor(size);
            Expect.same("new leaf for element " + size, before, x.leafOf(1, size));
            Expect.same("entries of the new leaf", size % 4 + 1, x.entryCount(before));
            Expect.same("new root for element " + size, x.createdNodes() - 1, x.rootOf(1));
            int due = (size - 1) / 4 == size / 4 ? before : (size - 1) / 4;
            Expect.same("leaf of the element before", due, x.leafOf(1, size - 1));
        }
    }

    private static void appendedToEmpty() {
        for (VectorVersions x : Stores.ofSize(0)) {
            int empty = Stores.latest(x);
            int before = x.createdNodes();
            int version = x.append(empty, -7);
            Expect.same("one", 1, x.nodesCreatedFor(version));
            Expect.same("root", before, x.rootOf(version));
            Expect.same("leaf", true, x.isLeaf(before));
            Expect.same("one element", 1, x.entryCount(before));
            Expect.same("height", 1, x.height(version));
            Expect.same("element", -7, x.get(version, 0));
        }
    }

    private static void sameSize() {
        for (int size : Stores.EDGE_SIZES) {
            for (VectorVersions x : Stores.ofSize(size)) {
                int version = Stores.latest(x);
                int before = x.createdNodes();
                int made = x.truncate(version, size);
                Expect.same("no node for " + size, 0, x.nodesCreatedFor(made));
                Expect.same("created for " + size, before, x.createdNodes());
                Expect.same("same root for " + size, x.rootOf(version), x.rootOf(made));
                Expect.same("same size for " + size, size, x.size(made));
            }
        }
    }

    private static void sizeZero() {
        for (int size : Stores.EDGE_SIZES) {
            VectorVersions x = Stores.counting(size);
            x.truncate(0, 0);
            Expect.same("from " + size, 0, x.nodesCreatedFor(1));
            Expect.same("created from " + size, Stores.nodesFor(size), x.createdNodes());
            Expect.same("root from " + size, -1, x.rootOf(1));
            Expect.same("size from " + size, 0, x.size(1));
        }
    }

    private static void truncatedHeight() {
        for (int from : new int[] {64, 17, 16, 5, 4}) {
            VectorVersions x = Stores.counting(from);
            for (int size : Stores.EDGE_SIZES) {
                if (size > 0 && size < from) {
                    int version = x.truncate(0, size);
                    Expect.same("from " + from + " to " + size, Stores.heightFor(size), x.height(version));
                }
            }
        }
    }

    private static void truncatedPath() {
        for (int from : new int[] {64, 63, 61, 33, 18, 17, 16, 15, 6, 5, 4, 2}) {
            for (int size = 1; size < from; size++) {
                VectorVersions x = Stores.counting(from);
                x.truncate(0, size);
                Expect.same("nodes from " + from + " to " + size, anewFor(from, size), x.nodesCreatedFor(1));
                int lastLeaf = x.leafOf(1, size - 1);
                boolean used = Math.min(from, (size + 3) / 4 * 4) == size;
                Expect.same("last leaf used from " + from + " to " + size, used, lastLeaf == (size - 1) / 4);
                Expect.same("entries of the last leaf", (size - 1) % 4 + 1, x.entryCount(lastLeaf));
                Expect.same("last element", size - 1, x.get(1, size - 1));
            }
        }
        truncatedRoots();
    }

    /** A node of a level on the last path is created anew if it spans old elements behind the new size. */
    private static int anewFor(int from, int size) {
        int anew = 0;
        for (int level = 1; level <= Stores.heightFor(size); level++) {
            int span = level == 1 ? 4 : level == 2 ? 16 : 64;
            anew += Math.min(from, (size + span - 1) / span * span) > size ? 1 : 0;
        }
        return anew;
    }

    private static void truncatedRoots() {
        VectorVersions x = Stores.counting(64);
        Expect.same("first branch used as root", 16, x.rootOf(x.truncate(0, 16)));
        Expect.same("first leaf used as root", 0, x.rootOf(x.truncate(0, 4)));
        x.truncate(0, 48);
        Expect.same("root anew, branches used", "21 16 17 18 -1", x.rootOf(3) + " " + x.childOf(21, 0) + " "
            + x.childOf(21, 1) + " " + x.childOf(21, 2) + " " + x.childOf(21, 3));
        x.truncate(0, 52);
        Expect.same("branch anew, leaf used", "23 22 12 -1", x.rootOf(4) + " " + x.childOf(23, 3) + " "
            + x.childOf(22, 0) + " " + x.childOf(22, 1));
        x.truncate(3, 47);
        Expect.same("all three anew", "24 25 26", x.leafOf(5, 46) + " " + x.childOf(26, 2) + " " + x.rootOf(5));
        VectorVersions y = Stores.counting(18);
        y.truncate(0, 17);
        Expect.same("only the last node below has an entry behind", 3, y.nodesCreatedFor(1));
    }

    // ---- garbage ----

    private static void whatIsGarbage() {
        VectorVersions x = new VectorVersions();
        Expect.same("none in a new object", 0, x.garbageNodes());
        x.set(0, 0, 1);
        x.truncate(1, 4);
        Expect.same("only the root of 1", 1, x.release(1));
        Expect.same("what 0 and 2 reach is none", 1, x.garbageNodes());
        Expect.same("what only 0 reached", 5, x.release(0));
        Expect.same("all", 6, x.release(2));
        x.undo();
        Expect.same("reached again", 5, x.garbageNodes());
        VectorVersions y = Stores.counting(0);
        Expect.same("an empty vector leaves none", 0, y.release(0));
    }

    private static void storedGarbage() {
        VectorVersions x = new VectorVersions();
        x.set(0, 0, 1);
        x.release(0);
        x.append(1, 1);
        Expect.same("stored", 8, x.storedNodes());
        Expect.same("leaf is there", 4, x.entryCount(0));
        Expect.same("root is there", 0, x.childOf(3, 0));
        x.collect();
        Expect.same("no longer stored", 6, x.storedNodes());
        Expect.noPlace("leaf is gone", () -> x.entryCount(0));
        Expect.noPlace("root is gone", () -> x.childOf(3, 0));
    }
}
