/** Promises 8 to 21: the version tree, and what a vector holds. */
final class VersionSentences {
    private static final String NO_VERSION = "Throws `IndexOutOfBoundsException` if there is no such version";
    private static final String NO_ELEMENT = "Throws `IndexOutOfBoundsException` if there is no such version, or no such "
        + "element in a version that is not released";
    private static final String RELEASED = "Throws `IllegalStateException` if the version is released";
    private static final int[] NO_INDEXES = {-1, 64, Integer.MIN_VALUE, Integer.MAX_VALUE};

    private VersionSentences() {
    }

    static void hold(Sentences s) {
        counts(s);
        tree(s);
        s.hold("Promise 14", "Returns the nearest common ancestor of two versions.", VersionSentences::nearest);
        s.hold("Promise 14", "`other`: number of another or the same version", VersionSentences::sameVersion);
        s.hold("Promise 14", "Returns the number of the version with the greatest depth that is an ancestor of both or one "
            + "of them itself and an ancestor of the other one.", VersionSentences::greatestDepth);
        s.hold("Promise 14", NO_VERSION, () -> Refusals.noVersionOfTwo(VectorVersions::commonAncestor));
        wholeVectors(s);
        elements(s);
    }

    private static void counts(Sentences s) {
        s.hold("Promise 8", "Returns the number of versions.", VersionSentences::versionCount);
        s.hold("Promise 8", "Returns the number of versions that were ever created.", VersionSentences::everCreated);
        s.hold("Promise 9", "Returns the number of versions that are not released.", VersionSentences::liveCount);
        s.hold("Promise 9", "Returns the number of versions.", VersionSentences::liveBounds);
        s.hold("Promise 10", "Tells whether a version is released.", VersionSentences::isReleased);
        s.hold("Promise 10", "Returns true if it is released.", VersionSentences::releasedExactly);
        s.hold("Promise 10", NO_VERSION, () -> Refusals.noVersion(VectorVersions::isReleased));
    }

    private static void tree(Sentences s) {
        s.hold("Promise 11", "Returns the parent of a version.", VersionSentences::parents);
        s.hold("Promise 11", "Returns the number of the version from which it was made, also if that one is released, or "
            + "NONE for version 0.", VersionSentences::releasedParents);
        s.hold("Promise 11", NO_VERSION, () -> Refusals.noVersion(VectorVersions::parentOf));
        s.hold("Promise 12", "Returns the depth of a version in the version tree.", VersionSentences::depths);
        s.hold("Promise 12", "Returns the number of its ancestors.", VersionSentences::ancestors);
        s.hold("Promise 12", NO_VERSION, () -> Refusals.noVersion(VectorVersions::depthOf));
        s.hold("Promise 13", "Returns the number of versions that were made from a version directly.",
            VersionSentences::children);
        s.hold("Promise 13", "Returns the number of versions.", VersionSentences::childBounds);
        s.hold("Promise 13", NO_VERSION, () -> Refusals.noVersion(VectorVersions::childCount));
    }

    private static void wholeVectors(Sentences s) {
        s.hold("Promise 15", "Returns the size of a version.", VersionSentences::sizes);
        s.hold("Promise 15", "Returns the number of elements.", VersionSentences::allSizes);
        s.hold("Promise 15", NO_VERSION, () -> Refusals.noVersion(VectorVersions::size));
        s.hold("Promise 15", RELEASED, () -> Refusals.released(VectorVersions::size));
        s.hold("Promise 16", "Returns the height of the tree of a version.", VersionSentences::heights);
        s.hold("Promise 16", "Returns the height, 0 to 3.", VersionSentences::allHeights);
        s.hold("Promise 16", NO_VERSION, () -> Refusals.noVersion(VectorVersions::height));
        s.hold("Promise 16", RELEASED, () -> Refusals.released(VectorVersions::height));
        s.hold("Promise 17", "Returns the root of a version.", VersionSentences::roots);
        s.hold("Promise 17", "Returns the number of the node, or NONE if the version is empty.",
            VersionSentences::emptyRoots);
        s.hold("Promise 17", NO_VERSION, () -> Refusals.noVersion(VectorVersions::rootOf));
        s.hold("Promise 17", RELEASED, () -> Refusals.released(VectorVersions::rootOf));
        s.hold("Promise 20", "Returns the sum of the elements of a version.", VersionSentences::sums);
        s.hold("Promise 20", "Returns the sum.", VersionSentences::edgeSums);
        s.hold("Promise 20", NO_VERSION, () -> Refusals.noVersion(VectorVersions::sum));
        s.hold("Promise 20", RELEASED, () -> Refusals.released(VectorVersions::sum));
    }

    private static void elements(Sentences s) {
        s.hold("Promise 18", "Returns an element.", VersionSentences::elements);
        s.hold("Promise 18", "`index`: index of the element, starting at 0", VersionSentences::firstElement);
        s.hold("Promise 18", "Returns the element.", VersionSentences::edgeElements);
        s.hold("Promise 18", NO_ELEMENT, () -> noElement(VectorVersions::get));
        s.hold("Promise 18", RELEASED, () -> releasedElement(VectorVersions::get));
        s.hold("Promise 19", "Returns the leaf that holds an element.", VersionSentences::leaves);
        s.hold("Promise 19", "`index`: index of the element, starting at 0", VersionSentences::firstLeaf);
        s.hold("Promise 19", "Returns the number of the node.", VersionSentences::edgeLeaves);
        s.hold("Promise 19", NO_ELEMENT, () -> noElement(VectorVersions::leafOf));
        s.hold("Promise 19", RELEASED, () -> releasedElement(VectorVersions::leafOf));
        s.hold("Promise 21", "Finds an element.", VersionSentences::finds);
        s.hold("Promise 21", "`value`: the value", VersionSentences::searchedValues);
        s.hold("Promise 21", "Returns the smallest index of an element with this value, or NONE if there is none.",
            VersionSentences::smallestIndex);
        s.hold("Promise 21", NO_VERSION, () -> Refusals.noVersion((x, version) -> x.indexOf(version, 5)));
        s.hold("Promise 21", RELEASED, () -> Refusals.released((x, version) -> x.indexOf(version, 5)));
    }

    // ---- promises 8 to 13 ----

    private static void versionCount() {
        VectorVersions x = new VectorVersions();
        Expect.same("one", 1, x.versionCount());
        x.set(0, 0, 5);
        x.append(0, 1);
        x.truncate(0, 0);
        Expect.same("one more for each change that makes one", 4, x.versionCount());
        x.collect();
        x.saveState();
        Expect.same("none for others", 4, x.versionCount());
        x.undo();
        x.undo();
        Expect.same("undone", 3, x.versionCount());
        Expect.same("forty", 40, Stores.withFortyVersions().versionCount());
    }

    private static void everCreated() {
        VectorVersions x = new VectorVersions();
        x.append(0, 1);
        x.release(0);
        x.release(1);
        x.collect();
        Expect.same("released ones count", 2, x.versionCount());
        Texts.load(x, "");
        Expect.same("since the setup", 1, x.versionCount());
    }

    private static void liveCount() {
        VectorVersions x = new VectorVersions();
        x.append(0, 1);
        x.append(0, 2);
        Expect.same("three", 3, x.liveCount());
        x.release(1);
        Expect.same("two", 2, x.liveCount());
        x.undo();
        Expect.same("three again", 3, x.liveCount());
        Texts.run(x, "release 0;release 2;");
        Expect.same("one", 1, x.liveCount());
    }

    private static void liveBounds() {
        VectorVersions x = new VectorVersions();
        x.release(0);
        Expect.same("none", 0, x.liveCount());
        VectorVersions full = Stores.withFortyVersions();
        Expect.same("forty", 40, full.liveCount());
        for (int version = 0; version < 40; version++) {
            full.release(version);
            Expect.same("without " + version, 39 - version, full.liveCount());
        }
    }

    private static void isReleased() {
        VectorVersions x = new VectorVersions();
        x.append(0, 1);
        x.release(0);
        Expect.same("released", true, x.isReleased(0));
        Expect.same("not released", false, x.isReleased(1));
        x.undo();
        Expect.same("undone", false, x.isReleased(0));
    }

    private static void releasedExactly() {
        VectorVersions x = Stores.withFortyVersions();
        x.release(39);
        x.release(0);
        for (int version = 0; version < 40; version++) {
            Expect.same("version " + version, version == 0 || version == 39, x.isReleased(version));
        }
        x.collect();
        Expect.same("still, when collected", true, x.isReleased(39));
        x.undo();
        x.undo();
        x.undo();
        x.undo();
        x.append(0, 1);
        Expect.same("a new version with an old number", false, x.isReleased(39));
    }

    private static void parents() {
        VectorVersions x = new VectorVersions();
        x.set(0, 0, 1);
        x.append(0, 1);
        x.truncate(1, 0);
        Texts.run(x, "append 2 5;");
        Expect.same("set", 0, x.parentOf(1));
        Expect.same("append", 0, x.parentOf(2));
        Expect.same("truncate", 1, x.parentOf(3));
        Expect.same("script", 2, x.parentOf(4));
        x.undo();
        x.set(0, 0, 5);
        Expect.same("another version with an old number", 0, x.parentOf(4));
    }

    private static void releasedParents() {
        VectorVersions x = new VectorVersions();
        Expect.same("version 0", -1, x.parentOf(0));
        x.append(0, 1);
        x.append(1, 1);
        x.release(1);
        x.release(2);
        x.collect();
        Expect.same("released parent", 1, x.parentOf(2));
        x.release(0);
        Expect.same("released version 0", -1, x.parentOf(0));
        Expect.same("released version 0 as parent", 0, x.parentOf(1));
    }

    private static VectorVersions chain() {
        VectorVersions x = new VectorVersions();
        for (int i = 0; i < 39; i++) {
            x.truncate(i, 10);
        }
        return x;
    }

    private static void depths() {
        VectorVersions x = new VectorVersions();
        x.append(0, 1);
        x.append(0, 2);
        x.append(2, 3);
        Expect.same("version 0", 0, x.depthOf(0));
        Expect.same("first child", 1, x.depthOf(1));
        Expect.same("second child", 1, x.depthOf(2));
        Expect.same("grandchild", 2, x.depthOf(3));
    }

    private static void ancestors() {
        VectorVersions x = chain();
        for (int version = 0; version < 40; version++) {
            Expect.same("in a chain", version, x.depthOf(version));
        }
        x.release(38);
        x.release(39);
        Expect.same("released ones count", 39, x.depthOf(39));
        VectorVersions star = Stores.withFortyVersions();
        Expect.same("in a star", 1, star.depthOf(39));
    }

    private static void children() {
        VectorVersions x = new VectorVersions();
        Expect.same("none", 0, x.childCount(0));
        x.append(0, 1);
        x.set(0, 0, 5);
        x.truncate(1, 2);
        Expect.same("two", 2, x.childCount(0));
        Expect.same("not the grandchildren", 1, x.childCount(1));
        Expect.same("none", 0, x.childCount(3));
        x.release(2);
        x.release(1);
        x.collect();
        Expect.same("released children count", 2, x.childCount(0));
        Expect.same("a released parent has them", 1, x.childCount(1));
    }

    private static void childBounds() {
        VectorVersions x = Stores.withFortyVersions();
        Expect.same("39", 39, x.childCount(0));
        Expect.same("none of the last", 0, x.childCount(39));
        x.undo();
        Expect.same("undone", 38, x.childCount(0));
        Expect.same("one each", 1, chain().childCount(38));
        Expect.same("version 0 is no child", 0, new VectorVersions().childCount(0));
    }

    // ---- promise 14 ----

    private static void nearest() {
        VectorVersions x = new VectorVersions();
        x.append(0, 1);
        x.append(1, 2);
        x.append(1, 3);
        x.append(3, 4);
        x.append(0, 5);
        Expect.same("siblings", 1, x.commonAncestor(2, 3));
        Expect.same("uneven", 1, x.commonAncestor(2, 4));
        Expect.same("uneven, other way round", 1, x.commonAncestor(4, 2));
        Expect.same("far apart", 0, x.commonAncestor(4, 5));
        Expect.same("far apart, other way round", 0, x.commonAncestor(5, 4));
    }

    private static void sameVersion() {
        VectorVersions x = chain();
        Expect.same("version 0", 0, x.commonAncestor(0, 0));
        Expect.same("the middle", 20, x.commonAncestor(20, 20));
        Expect.same("the last", 39, x.commonAncestor(39, 39));
        x.release(20);
        Expect.same("released", 20, x.commonAncestor(20, 20));
    }

    private static void greatestDepth() {
        VectorVersions x = chain();
        Expect.same("one of them itself", 3, x.commonAncestor(3, 39));
        Expect.same("one of them itself, other way round", 3, x.commonAncestor(39, 3));
        Expect.same("version 0 itself", 0, x.commonAncestor(0, 39));
        Expect.same("parent", 38, x.commonAncestor(39, 38));
        VectorVersions star = Stores.withFortyVersions();
        Expect.same("star", 0, star.commonAncestor(1, 39));
        VectorVersions y = new VectorVersions();
        y.append(0, 1);
        y.append(1, 1);
        y.append(1, 1);
        y.release(1);
        y.release(2);
        Expect.same("released ancestor", 1, y.commonAncestor(2, 3));
        Expect.same("released version itself", 1, y.commonAncestor(3, 1));
    }

    // ---- promises 15 to 17 and 20 ----

    private static void sizes() {
        VectorVersions x = new VectorVersions();
        x.set(0, 0, 1);
        x.append(0, 1);
        x.truncate(0, 3);
        Expect.same("version 0", 10, x.size(0));
        Expect.same("set", 10, x.size(1));
        Expect.same("append", 11, x.size(2));
        Expect.same("truncate", 3, x.size(3));
    }

    private static void allSizes() {
        for (int size = 0; size <= 64; size++) {
            for (VectorVersions x : Stores.ofSize(size)) {
                Expect.same("size", size, x.size(Stores.latest(x)));
            }
        }
    }

    private static void heights() {
        VectorVersions x = new VectorVersions();
        x.truncate(0, 4);
        x.truncate(0, 0);
        Expect.same("two", 2, x.height(0));
        Expect.same("one", 1, x.height(1));
        Expect.same("none", 0, x.height(2));
        Expect.same("three", 3, Stores.counting(17).height(0));
    }

    private static void allHeights() {
        for (int size = 0; size <= 64; size++) {
            for (VectorVersions x : Stores.ofSize(size)) {
                Expect.same("height for " + size, Stores.heightFor(size), x.height(Stores.latest(x)));
            }
        }
    }

    private static void roots() {
        VectorVersions x = new VectorVersions();
        x.set(0, 0, 1);
        x.append(0, 1);
        x.truncate(0, 3);
        x.truncate(0, 4);
        Expect.same("version 0", 3, x.rootOf(0));
        Expect.same("set", 5, x.rootOf(1));
        Expect.same("append", 7, x.rootOf(2));
        Expect.same("truncate", 8, x.rootOf(3));
        Expect.same("a leaf that was used", 0, x.rootOf(4));
    }

    private static void emptyRoots() {
        for (VectorVersions x : Stores.ofSize(0)) {
            Expect.same("empty", -1, x.rootOf(Stores.latest(x)));
        }
        for (VectorVersions x : Stores.ofSize(1)) {
            int version = Stores.latest(x);
            Expect.same("one element", x.leafOf(version, 0), x.rootOf(version));
        }
    }

    private static void sums() {
        VectorVersions x = new VectorVersions();
        Expect.same("version 0", 46, x.sum(0));
        x.set(0, 5, -12);
        x.append(0, 100);
        x.truncate(0, 2);
        Expect.same("set", 22, x.sum(1));
        Expect.same("append", 146, x.sum(2));
        Expect.same("truncate", 3, x.sum(3));
        Expect.same("version 0 still", 46, x.sum(0));
    }

    private static void edgeSums() {
        for (VectorVersions x : Stores.ofSize(0)) {
            Expect.same("empty", 0, x.sum(Stores.latest(x)));
        }
        for (int size = 0; size <= 64; size++) {
            Expect.same("sum of " + size, size * (size - 1) / 2, Stores.counting(size).sum(0));
        }
        Expect.same("greatest", 64 * 999, Texts.loaded("list" + " 999".repeat(64) + ";").sum(0));
        Expect.same("smallest", -64 * 999, Texts.loaded("list " + "minus999".repeat(64) + ";").sum(0));
    }

    // ---- promises 18, 19 and 21 ----

    private static void elements() {
        int[] due = {5, -2, 7, 7, 0, 12, 3, 1, 9, 4};
        VectorVersions x = new VectorVersions();
        x.set(0, 9, 77);
        for (int index = 0; index < 10; index++) {
            Expect.same("element " + index, due[index], x.get(0, index));
            Expect.same("element " + index + " of the other", index == 9 ? 77 : due[index], x.get(1, index));
        }
    }

    private static void firstElement() {
        VectorVersions x = Texts.loaded("list minus 3 8;");
        Expect.same("index 0", -3, x.get(0, 0));
        Expect.same("index 1", 8, x.get(0, 1));
        Expect.noPlace("index 2", () -> x.get(0, 2));
        Expect.noPlace("index -1", () -> x.get(0, -1));
    }

    private static void edgeElements() {
        for (int size = 1; size <= 64; size++) {
            for (VectorVersions x : Stores.ofSize(size)) {
                int version = Stores.latest(x);
                Expect.same("first of " + size, 0, x.get(version, 0));
                Expect.same("last of " + size, size - 1, x.get(version, size - 1));
            }
        }
        VectorVersions x = Texts.loaded("list minus 999 999 minus 1;");
        Expect.same("-999", -999, x.get(0, 0));
        Expect.same("999", 999, x.get(0, 1));
        Expect.same("-1", -1, x.get(0, 2));
    }

    private interface ElementCall {
        Object of(VectorVersions x, int version, int index);
    }

    private static void noElement(ElementCall call) {
        Refusals.noVersion((x, version) -> call.of(x, version, 0));
        Refusals.noVersion((x, version) -> call.of(x, version, 9));
        for (int size : Stores.EDGE_SIZES) {
            for (VectorVersions x : Stores.ofSize(size)) {
                int version = Stores.latest(x);
                Expect.noPlace("index " + size, () -> call.of(x, version, size));
                for (int index : NO_INDEXES) {
                    Expect.noPlace("index " + index + " of " + size, () -> call.of(x, version, index));
                }
                if (size > 0) {
                    Expect.noException("index " + (size - 1), () -> call.of(x, version, size - 1));
                }
            }
        }
    }

    private static void releasedElement(ElementCall call) {
        Refusals.released((x, version) -> call.of(x, version, 0));
        VectorVersions x = new VectorVersions();
        x.truncate(0, 0);
        x.release(0);
        x.release(1);
        for (int index : NO_INDEXES) {
            Expect.badState("no element of a released version, index " + index, () -> call.of(x, 0, index));
            Expect.badState("no element of a released empty version, index " + index, () -> call.of(x, 1, index));
        }
        Expect.badState("behind the end of a released version", () -> call.of(x, 0, 10));
        Expect.badState("index 0 of a released empty version", () -> call.of(x, 1, 0));
    }

    private static void leaves() {
        VectorVersions x = new VectorVersions();
        x.set(0, 4, 9);
        x.append(0, 1);
        for (int index = 0; index < 10; index++) {
            Expect.same("version 0, index " + index, index / 4, x.leafOf(0, index));
            Expect.same("set, index " + index, index / 4 == 1 ? 4 : index / 4, x.leafOf(1, index));
            Expect.same("append, index " + index, index / 4 == 2 ? 6 : index / 4, x.leafOf(2, index));
        }
    }

    private static void firstLeaf() {
        VectorVersions x = Stores.counting(5);
        Expect.same("index 0", 0, x.leafOf(0, 0));
        Expect.same("index 3", 0, x.leafOf(0, 3));
        Expect.same("index 4", 1, x.leafOf(0, 4));
        Expect.noPlace("index 5", () -> x.leafOf(0, 5));
        Expect.noPlace("index -1", () -> x.leafOf(0, -1));
    }

    private static void edgeLeaves() {
        for (int size = 1; size <= 64; size++) {
            for (VectorVersions x : Stores.ofSize(size)) {
                int version = Stores.latest(x);
                Shape shape = new Shape(x, version);
                Expect.same("first of " + size, shape.leaves.get(0), x.leafOf(version, 0));
                Expect.same("last of " + size, shape.leaves.get((size - 1) / 4), x.leafOf(version, size - 1));
            }
        }
    }

    private static void finds() {
        VectorVersions x = new VectorVersions();
        x.set(0, 0, 44);
        Expect.same("in version 0", 5, x.indexOf(0, 12));
        Expect.same("in the other", 0, x.indexOf(1, 44));
        Expect.same("not in version 0", -1, x.indexOf(0, 44));
        Expect.same("no more", -1, x.indexOf(1, 5));
    }

    private static void searchedValues() {
        VectorVersions x = Texts.loaded("list minus 999 999 minus 1 0;");
        Expect.same("-999", 0, x.indexOf(0, -999));
        Expect.same("999", 1, x.indexOf(0, 999));
        Expect.same("-1", 2, x.indexOf(0, -1));
        Expect.same("0", 3, x.indexOf(0, 0));
        for (int value : new int[] {-1000, 1000, 998, 1, Integer.MIN_VALUE, Integer.MAX_VALUE}) {
            Expect.same("value " + value, -1, x.indexOf(0, value));
        }
    }

    private static void smallestIndex() {
        VectorVersions x = new VectorVersions();
        Expect.same("first of two", 2, x.indexOf(0, 7));
        Expect.same("index 0", 0, x.indexOf(0, 5));
        Expect.same("last", 9, x.indexOf(0, 4));
        Expect.same("none", -1, x.indexOf(0, 100));
        VectorVersions same = Texts.loaded("list" + " 6".repeat(64) + ";");
        Expect.same("all are the same", 0, same.indexOf(0, 6));
        same.set(0, 63, 5);
        Expect.same("index 63", 63, same.indexOf(1, 5));
        VectorVersions empty = Stores.counting(0);
        Expect.same("empty", -1, empty.indexOf(0, 0));
        Expect.same("empty, NONE itself", -1, empty.indexOf(0, -1));
        VectorVersions two = Stores.counting(3);
        two.truncate(0, 2);
        Expect.same("behind the end", -1, two.indexOf(1, 2));
    }
}
