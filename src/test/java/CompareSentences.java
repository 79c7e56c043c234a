/** Promises 33 to 42: comparisons, forecasts, and what is told of the whole store. */
final class CompareSentences {
    private static final String NO_VERSION = "Throws `IndexOutOfBoundsException` if there is no such version";
    private static final String RELEASED = "Throws `IllegalStateException` if the version is released";
    private static final String ONE_RELEASED = "Throws `IllegalStateException` if one of the versions is released";

    private CompareSentences() {
    }

    static void hold(Sentences s) {
        differences(s);
        cost(s);
        forecasts(s);
        garbageForecast(s);
        wholeStore(s);
    }

    private static void differences(Sentences s) {
        s.hold("Promise 33", "Counts the differences of two versions.", CompareSentences::differences);
        s.hold("Promise 33", "`other`: number of another or the same version",
            () -> sameVersion(0, VectorVersions::differences));
        s.hold("Promise 33", "Returns the number of indexes at which both have an element and the elements differ, plus the "
            + "absolute difference of the sizes.", CompareSentences::differencesOfSizes);
        s.hold("Promise 33", NO_VERSION + " (either)", () -> Refusals.noVersionOfTwo(VectorVersions::differences));
        s.hold("Promise 33", ONE_RELEASED, () -> Refusals.releasedOfTwo(VectorVersions::differences));
        s.hold("Promise 34", "Finds the first difference of two versions.", CompareSentences::firstDifference);
        s.hold("Promise 34", "`other`: number of another or the same version",
            () -> sameVersion(-1, VectorVersions::firstDifference));
        s.hold("Promise 34", "Returns the smallest index at which exactly one of them has an element or both have different "
            + "elements, or NONE if there is none.", CompareSentences::smallestDifference);
        s.hold("Promise 34", NO_VERSION + " (either)", () -> Refusals.noVersionOfTwo(VectorVersions::firstDifference));
        s.hold("Promise 34", ONE_RELEASED, () -> Refusals.releasedOfTwo(VectorVersions::firstDifference));
    }

    private static void cost(Sentences s) {
        s.hold("Promise 35", "Returns the cost of comparing two versions node by node.", CompareSentences::cost);
        s.hold("Promise 35", "`other`: number of another or the same version",
            () -> sameVersion(0, VectorVersions::comparisonCost));
        s.hold("Promise 35", "Returns the number of pairs of nodes that are visited: starting with the pair of the roots, a "
            + "pair of two equal node numbers is not visited; after a visited pair of inner nodes, the pairs of their "
            + "children at the same positions follow; NONE if the heights differ; 0 if both are empty.",
            CompareSentences::costBounds);
        s.hold("Promise 35", NO_VERSION + " (either)", () -> Refusals.noVersionOfTwo(VectorVersions::comparisonCost));
        s.hold("Promise 35", ONE_RELEASED, () -> Refusals.releasedOfTwo(VectorVersions::comparisonCost));
    }

    private static void forecasts(Sentences s) {
        s.hold("Promise 36", "Forecasts the nodes that set would create.", CompareSentences::forecastsSet);
        s.hold("Promise 36", "`index`: index of the element, starting at 0", CompareSentences::setIndexes);
        s.hold("Promise 36", "`value`: the new value, -999 to 999", CompareSentences::setValues);
        s.hold("Promise 36", "Returns the number of nodes.", CompareSentences::nodesForSet);
        s.hold("Promise 36", "Throws `IndexOutOfBoundsException` if there is no such version, or no such element in a "
            + "version that is not released", CompareSentences::setWithoutElement);
        s.hold("Promise 36", "Throws `IllegalArgumentException` if value is outside its range",
            CompareSentences::setBadValue);
        s.hold("Promise 36", RELEASED, CompareSentences::setReleased);
        s.hold("Promise 37", "Forecasts the nodes that append would create.", CompareSentences::forecastsAppend);
        s.hold("Promise 37", "Returns the number of nodes, or NONE if the version has 64 elements.",
            CompareSentences::nodesForAppend);
        s.hold("Promise 37", NO_VERSION, () -> Refusals.noVersion(VectorVersions::nodesForAppend));
        s.hold("Promise 37", RELEASED, CompareSentences::appendReleased);
    }

    private static void garbageForecast(Sentences s) {
        s.hold("Promise 38", "Forecasts the garbage that releasing a version would make.",
            CompareSentences::forecastsGarbage);
        s.hold("Promise 38", "Returns the number of nodes that would become garbage.", CompareSentences::garbageBounds);
        s.hold("Promise 38", NO_VERSION, () -> Refusals.noVersion(VectorVersions::garbageIfReleased));
        s.hold("Promise 38", RELEASED, () -> Refusals.released(VectorVersions::garbageIfReleased));
    }

    private static void wholeStore(Sentences s) {
        s.hold("Promise 39", "Returns the version with the most elements.", CompareSentences::largest);
        s.hold("Promise 39", "Returns the number of the version that is not released with the greatest size; the smallest "
            + "number in a tie; NONE if all are released.", CompareSentences::largestBounds);
        s.hold("Promise 40", "Returns the degree of sharing.", CompareSentences::sharing);
        s.hold("Promise 40", "Returns the sum of nodesOf over all versions that are not released, divided by the number of "
            + "stored nodes that they can reach, both converted to double, or 0.0 if they can reach none.",
            CompareSentences::sharingBounds);
        s.hold("Promise 41", "Returns the part of garbage.", CompareSentences::garbagePart);
        s.hold("Promise 41", "Returns the number of garbage nodes divided by the number of stored nodes, both converted to "
            + "float, or 0 if no node is stored.", CompareSentences::garbagePartBounds);
        s.hold("Promise 42", "Checks the invariants: every version that is not released has the elements that it had when "
            + "it was made; the size of each tree equals the size of its version; all leaves of a tree have the same depth "
            + "and, except for the last leaf, 4 elements; the nodes reached by a search from the roots equal those with "
            + "references that can be followed up to a root; the created nodes add up over the versions.",
            CompareSentences::invariants);
        s.hold("Promise 42", "Returns true (always).", CompareSentences::always);
    }

    private static void sameVersion(int due, Refusals.PairCall call) {
        for (int size : Stores.EDGE_SIZES) {
            VectorVersions x = Stores.counting(size);
            Expect.same("size " + size, due, call.of(x, 0, 0));
            x.truncate(0, size);
            Expect.same("same root, size " + size, due, call.of(x, 0, 1));
        }
    }

    // ---- promises 33 and 34 ----

    private static void differences() {
        VectorVersions x = new VectorVersions();
        x.set(0, 0, 1);
        x.set(1, 9, 1);
        x.append(2, 1);
        Expect.same("one", 1, x.differences(0, 1));
        Expect.same("two", 2, x.differences(0, 2));
        Expect.same("two and the size", 3, x.differences(0, 3));
        Expect.same("other way round", 3, x.differences(3, 0));
    }

    private static void differencesOfSizes() {
        VectorVersions x = Stores.counting(64);
        x.truncate(0, 0);
        x.truncate(0, 63);
        x.set(0, 0, -1);
        Expect.same("64 and none", 64, x.differences(0, 1));
        Expect.same("none and 64", 64, x.differences(1, 0));
        Expect.same("both empty", 0, x.differences(1, 1));
        Expect.same("one more", 1, x.differences(0, 2));
        Expect.same("one less", 1, x.differences(2, 0));
        Expect.same("one less and another element", 2, x.differences(2, 3));
        x.set(3, 0, 0);
        Expect.same("equal elements in other nodes", 0, x.differences(0, 4));
        x.set(0, 63, 0);
        Expect.same("last element", 1, x.differences(0, 5));
        Expect.same("what only one has is no other element", 1, x.differences(2, 5));
        VectorVersions y = Texts.loaded("list minus 1 minus 1;");
        y.truncate(0, 1);
        Expect.same("a missing element is not -1", 1, y.differences(0, 1));
    }

    private static void firstDifference() {
        VectorVersions x = new VectorVersions();
        x.set(0, 3, 1);
        x.set(1, 9, 1);
        Expect.same("the only one", 3, x.firstDifference(0, 1));
        Expect.same("first of two", 3, x.firstDifference(0, 2));
        Expect.same("other way round", 3, x.firstDifference(2, 0));
        Expect.same("last index", 9, x.firstDifference(1, 2));
    }

    private static void smallestDifference() {
        VectorVersions x = Stores.counting(64);
        x.truncate(0, 0);
        x.truncate(0, 63);
        x.set(0, 0, -1);
        x.set(3, 0, 0);
        Expect.same("with the empty vector", 0, x.firstDifference(0, 1));
        Expect.same("of the empty vector", 0, x.firstDifference(1, 0));
        Expect.same("both empty", -1, x.firstDifference(1, 1));
        Expect.same("only one has the last element", 63, x.firstDifference(0, 2));
        Expect.same("only the other has the last element", 63, x.firstDifference(2, 0));
        Expect.same("index 0", 0, x.firstDifference(0, 3));
        Expect.same("another element before another size", 0, x.firstDifference(2, 3));
        Expect.same("equal elements in other nodes", -1, x.firstDifference(0, 4));
        VectorVersions y = Texts.loaded("list 5 minus 1;");
        y.truncate(0, 1);
        Expect.same("a missing element is not -1", 1, y.firstDifference(0, 1));
    }

    // ---- promise 35 ----

    private static void cost() {
        VectorVersions x = new VectorVersions();
        x.set(0, 0, 1);
        x.set(1, 9, 1);
        Expect.same("roots and one pair of leaves", 2, x.comparisonCost(0, 1));
        Expect.same("roots and two pairs of leaves", 3, x.comparisonCost(0, 2));
        Expect.same("other way round", 3, x.comparisonCost(2, 0));
    }

    private static void costBounds() {
        VectorVersions x = Stores.counting(64);
        x.truncate(0, 17);
        x.truncate(0, 16);
        x.truncate(0, 5);
        x.truncate(0, 4);
        x.truncate(0, 1);
        x.truncate(0, 0);
        int[] heights = {3, 3, 2, 2, 1, 1, 0};
        int[] costs = {0, 3, 0, 2, 0, 1, 0};
        for (int a = 0; a < 7; a++) {
            for (int b = 0; b < 7; b++) {
                if (heights[a] != heights[b]) {
                    Expect.same("heights " + heights[a] + " and " + heights[b], -1, x.comparisonCost(a, b));
                } else {
                    int due = a == b ? 0 : costs[a] + costs[b];
                    Expect.same("versions " + a + " and " + b, due, x.comparisonCost(a, b));
                }
            }
        }
        allPairs();
        equalElements();
    }

    private static void allPairs() {
        VectorVersions x = Stores.counting(64);
        for (int i = 0; i < 16; i++) {
            x.set(i, 4 * i, -1);
        }
        Expect.same("all 21 pairs", 21, x.comparisonCost(0, 16));
        Expect.same("first branch", 6, x.comparisonCost(0, 4));
        Expect.same("one path", 3, x.comparisonCost(15, 16));
    }

    private static void equalElements() {
        VectorVersions x = new VectorVersions();
        x.set(0, 0, 1);
        x.set(1, 0, 5);
        Expect.same("equal elements in other nodes", 2, x.comparisonCost(0, 2));
        VectorVersions y = Texts.loaded("list 1;");
        y.truncate(0, 0);
        y.append(1, 1);
        Expect.same("two leaves", 1, y.comparisonCost(0, 2));
        Expect.same("empty and a leaf", -1, y.comparisonCost(1, 2));
        Expect.same("a leaf and empty", -1, y.comparisonCost(2, 1));
        y.truncate(2, 0);
        Expect.same("two empty versions", 0, y.comparisonCost(1, 3));
    }

    // ---- promises 36 and 37 ----

    private static void forecastsSet() {
        VectorVersions x = new VectorVersions();
        for (int index = 0; index < 10; index++) {
            for (int value : new int[] {5, 7, -999}) {
                int forecast = x.nodesForSet(0, index, value);
                x.set(0, index, value);
                Expect.same("index " + index + " value " + value, x.nodesCreatedFor(1), forecast);
                x.undo();
            }
        }
    }

    private static void setIndexes() {
        for (int size : Stores.EDGE_SIZES) {
            VectorVersions x = Stores.counting(size);
            Expect.noPlace("index -1 of " + size, () -> x.nodesForSet(0, -1, 0));
            Expect.noPlace("index " + size, () -> x.nodesForSet(0, size, 0));
            if (size > 0) {
                Expect.same("index 0 of " + size, Stores.heightFor(size), x.nodesForSet(0, 0, 999));
                Expect.same("last index of " + size, Stores.heightFor(size), x.nodesForSet(0, size - 1, 999));
            }
        }
    }

    private static void setValues() {
        VectorVersions x = new VectorVersions();
        Expect.same("-999", 2, x.nodesForSet(0, 0, -999));
        Expect.same("999", 2, x.nodesForSet(0, 0, 999));
        Expect.badArgument("-1000", () -> x.nodesForSet(0, 0, -1000));
        Expect.badArgument("1000", () -> x.nodesForSet(0, 0, 1000));
        VectorVersions y = Texts.loaded("list minus 999 999;");
        Expect.same("-999 is there", 0, y.nodesForSet(0, 0, -999));
        Expect.same("999 is there", 0, y.nodesForSet(0, 1, 999));
    }

    private static void nodesForSet() {
        for (int size = 1; size <= 64; size++) {
            VectorVersions x = Stores.counting(size);
            Expect.same("same value in " + size, 0, x.nodesForSet(0, size - 1, size - 1));
            Expect.same("another value in " + size, Stores.heightFor(size), x.nodesForSet(0, size - 1, size));
        }
        VectorVersions full = Stores.withFortyVersions();
        Expect.same("although there are forty versions", 2, full.nodesForSet(39, 0, 0));
        Expect.same("same value, although there are forty versions", 0, full.nodesForSet(39, 0, 5));
    }

    private static void setWithoutElement() {
        Refusals.noVersion((x, version) -> x.nodesForSet(version, 0, 0));
        Refusals.noVersion((x, version) -> x.nodesForSet(version, 0, 1000));
        for (int size : Stores.EDGE_SIZES) {
            for (VectorVersions x : Stores.ofSize(size)) {
                int version = Stores.latest(x);
                for (int index : new int[] {-1, size, 64, Integer.MIN_VALUE, Integer.MAX_VALUE}) {
                    Expect.noPlace("index " + index + " of " + size, () -> x.nodesForSet(version, index, 0));
                    Expect.noPlace("and a bad value", () -> x.nodesForSet(version, index, 1000));
                }
            }
        }
    }

    private static void setBadValue() {
        VectorVersions x = new VectorVersions();
        x.truncate(0, 0);
        x.release(1);
        for (int value : new int[] {-1000, 1000, Integer.MIN_VALUE, Integer.MAX_VALUE}) {
            Expect.badArgument("value " + value, () -> x.nodesForSet(0, 0, value));
            Expect.badArgument("released, value " + value, () -> x.nodesForSet(1, 0, value));
            Expect.badArgument("released, no index, value " + value, () -> x.nodesForSet(1, -1, value));
        }
    }

    private static void setReleased() {
        Refusals.released((x, version) -> x.nodesForSet(version, 0, 0));
        VectorVersions x = new VectorVersions();
        x.release(0);
        Expect.badState("same value", () -> x.nodesForSet(0, 0, 5));
        for (int index : new int[] {-1, 10, 64, Integer.MIN_VALUE, Integer.MAX_VALUE}) {
            Expect.badState("no such index " + index, () -> x.nodesForSet(0, index, 0));
        }
    }

    private static void forecastsAppend() {
        for (int size = 0; size < 64; size++) {
            for (VectorVersions x : Stores.ofSize(size)) {
                int forecast = x.nodesForAppend(Stores.latest(x));
                int version = x.append(Stores.latest(x), 9);
                Expect.same("size " + size, x.nodesCreatedFor(version), forecast);
            }
        }
    }

    private static void nodesForAppend() {
        for (int size = 0; size < 64; size++) {
            Expect.same("size " + size, Stores.heightFor(size + 1), Stores.counting(size).nodesForAppend(0));
        }
        for (VectorVersions x : Stores.ofSize(64)) {
            Expect.same("64 elements", -1, x.nodesForAppend(Stores.latest(x)));
        }
        VectorVersions full = Stores.withFortyVersions();
        Expect.same("although there are forty versions", 2, full.nodesForAppend(39));
    }

    private static void appendReleased() {
        Refusals.released(VectorVersions::nodesForAppend);
        VectorVersions x = Stores.counting(64);
        x.release(0);
        Expect.badState("64 elements", () -> x.nodesForAppend(0));
    }

    // ---- promise 38 ----

    private static void forecastsGarbage() {
        VectorVersions x = new VectorVersions();
        x.set(0, 0, 1);
        x.append(1, 1);
        x.truncate(2, 8);
        for (int version = 0; version < 4; version++) {
            int before = x.garbageNodes();
            int forecast = x.garbageIfReleased(version);
            Expect.same("version " + version, x.release(version) - before, forecast);
        }
    }

    private static void garbageBounds() {
        VectorVersions x = new VectorVersions();
        Expect.same("the only version", 4, x.garbageIfReleased(0));
        x.truncate(0, 10);
        Expect.same("same root", 0, x.garbageIfReleased(0));
        x.release(0);
        Expect.same("the only one left", 4, x.garbageIfReleased(1));
        x.set(1, 0, 1);
        x.release(1);
        Expect.same("without the garbage that there is", 4, x.garbageIfReleased(2));
        Expect.same("empty", 0, Stores.counting(0).garbageIfReleased(0));
        Expect.same("all of 64", 21, Stores.counting(64).garbageIfReleased(0));
        Expect.same("one of forty", 0, Stores.withFortyVersions().garbageIfReleased(39));
    }

    // ---- promises 39 to 42 ----

    private static void largest() {
        VectorVersions x = new VectorVersions();
        Expect.same("only one", 0, x.largestVersion());
        x.truncate(0, 9);
        Expect.same("shorter one", 0, x.largestVersion());
        x.append(0, 1);
        Expect.same("longer one", 2, x.largestVersion());
        x.undo();
        Expect.same("undone", 0, x.largestVersion());
    }

    private static void largestBounds() {
        VectorVersions x = Stores.withFortyVersions();
        Expect.same("tie of forty", 0, x.largestVersion());
        for (int version = 0; version < 39; version++) {
            x.release(version);
            Expect.same("tie without " + version, version + 1, x.largestVersion());
        }
        x.release(39);
        Expect.same("all are released", -1, x.largestVersion());
        VectorVersions y = new VectorVersions();
        y.truncate(0, 0);
        y.truncate(0, 0);
        y.release(0);
        Expect.same("tie of empty vectors", 1, y.largestVersion());
        y.release(1);
        Expect.same("empty vector", 2, y.largestVersion());
        y.release(2);
        Expect.same("all are released", -1, y.largestVersion());
        VectorVersions z = new VectorVersions();
        z.append(0, 1);
        z.append(0, 2);
        z.release(1);
        Expect.same("released ones do not count", 2, z.largestVersion());
    }

    private static void sharing() {
        VectorVersions x = new VectorVersions();
        Expect.same("one version", 1.0, x.sharing());
        x.set(0, 0, 1);
        Expect.same("8 by 6", 8.0 / 6.0, x.sharing());
        x.append(1, 1);
        Expect.same("12 by 8", 1.5, x.sharing());
        x.truncate(0, 4);
        Expect.same("13 by 8", 13.0 / 8.0, x.sharing());
    }

    private static void sharingBounds() {
        VectorVersions x = new VectorVersions();
        x.set(0, 0, 1);
        x.set(0, 0, 2);
        x.release(1);
        Expect.same("garbage is not reached", 8.0 / 6.0, x.sharing());
        x.release(0);
        Expect.same("one live version", 1.0, x.sharing());
        x.release(2);
        Expect.same("all are released", 0.0, x.sharing());
        x.collect();
        Expect.same("nothing is stored", 0.0, x.sharing());
        VectorVersions empty = Stores.counting(0);
        Expect.same("empty vector", 0.0, empty.sharing());
        empty.append(0, 1);
        Expect.same("empty vector and a leaf", 1.0, empty.sharing());
        Expect.same("forty versions", 40.0, Stores.withFortyVersions().sharing());
    }

    private static void garbagePart() {
        VectorVersions x = new VectorVersions();
        Expect.same("none", 0.0f, x.garbagePart());
        x.set(0, 0, 1);
        x.release(0);
        Expect.same("2 of 6", 2.0f / 6.0f, x.garbagePart());
        x.append(1, 1);
        Expect.same("2 of 8", 0.25f, x.garbagePart());
        x.collect();
        Expect.same("collected", 0.0f, x.garbagePart());
    }

    private static void garbagePartBounds() {
        VectorVersions x = new VectorVersions();
        x.release(0);
        Expect.same("all", 1.0f, x.garbagePart());
        x.collect();
        Expect.same("no node is stored", 0.0f, x.garbagePart());
        Expect.same("empty vector", 0.0f, Stores.counting(0).garbagePart());
        VectorVersions y = Stores.counting(17);
        y.truncate(0, 16);
        y.release(0);
        Expect.same("3 of 8", 0.375f, y.garbagePart());
        y.set(1, 0, 9);
        Expect.same("3 of 10, as floats", 3.0f / 10.0f, y.garbagePart());
    }

    private static void invariants() {
        for (int size : Stores.EDGE_SIZES) {
            for (VectorVersions x : Stores.ofSize(size)) {
                Expect.same("size " + size, true, x.isConsistent());
                x.saveState();
                x.release(Stores.latest(x));
                Expect.same("released, size " + size, true, x.isConsistent());
                x.collect();
                Expect.same("collected, size " + size, true, x.isConsistent());
                x.restoreState();
                Expect.same("restored, size " + size, true, x.isConsistent());
            }
        }
    }

    private static void always() {
        VectorVersions x = new VectorVersions();
        for (int i = 0; i < 39; i++) {
            int parent = Stores.latest(x);
            int size = x.size(parent);
            switch (i % 3) {
                case 0 -> x.set(parent, size - 1, i);
                case 1 -> x.append(parent, i);
                default -> x.truncate(parent, size - 1);
            }
            Expect.same("version " + (i + 1), true, x.isConsistent());
        }
        Expect.same("undone", true, x.undo() == 7 && x.isConsistent());
        for (int version = 0; version < 39; version += 2) {
            x.release(version);
        }
        x.collect();
        Expect.same("collected", true, x.isConsistent());
        Texts.run(x, "release 1;collect;append 3 5;");
        Expect.same("script", true, x.isConsistent());
        for (int i = 0; i < 8; i++) {
            x.undo();
            Expect.same("undone " + i, true, x.isConsistent());
        }
        Texts.load(x, "list 1 2 3 4 5;");
        Expect.same("new setup", true, x.isConsistent());
        x.release(0);
        Expect.same("all are released", true, x.isConsistent());
    }
}
