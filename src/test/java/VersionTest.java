/** Promises 8 to 21: the version tree, and what a vector holds. */
public final class VersionTest {
    private static final int[] NO_VERSIONS = {-1, 4, 40, Integer.MIN_VALUE, Integer.MAX_VALUE};

    private VersionTest() {
    }

    public static void main(String[] args) {
        counts();
        tree();
        commonAncestors();
        sizesAndHeights();
        roots();
        elements();
        sums();
        searches();
        missingVersions();
        releasedVersions();
        Expect.finish("VersionTest");
    }

    /** Versions 0 to 3, where 1 and 3 come from 0 and 2 from 1; 1 is released. */
    private static VectorVersions sample() {
        VectorVersions x = new VectorVersions();
        x.set(0, 5, 20);
        x.append(1, 999);
        x.truncate(0, 0);
        x.release(1);
        return x;
    }

    private static void counts() {
        VectorVersions x = sample();
        Expect.same("8 versions", 4, x.versionCount());
        Expect.same("9 live", 3, x.liveCount());
        x.release(0);
        x.release(2);
        x.release(3);
        Expect.same("8 released versions count", 4, x.versionCount());
        Expect.same("9 none live", 0, x.liveCount());
        x.undo();
        Expect.same("9 one live again", 1, x.liveCount());
    }

    private static void tree() {
        VectorVersions x = sample();
        Expect.same("10 live", false, x.isReleased(0));
        Expect.same("10 released", true, x.isReleased(1));
        Expect.same("11 of version 0", -1, x.parentOf(0));
        Expect.same("11 of a released one", 0, x.parentOf(1));
        Expect.same("11 released parent", 1, x.parentOf(2));
        Expect.same("11 third", 0, x.parentOf(3));
        Expect.same("12 of version 0", 0, x.depthOf(0));
        Expect.same("12 of a released one", 1, x.depthOf(1));
        Expect.same("12 below a released one", 2, x.depthOf(2));
        Expect.same("12 third", 1, x.depthOf(3));
        Expect.same("13 two", 2, x.childCount(0));
        Expect.same("13 of a released one", 1, x.childCount(1));
        Expect.same("13 none", 0, x.childCount(2));
        x.release(2);
        Expect.same("13 released children count", 1, x.childCount(1));
        deepChain();
    }

    private static void deepChain() {
        VectorVersions x = new VectorVersions();
        for (int i = 0; i < 39; i++) {
            x.truncate(i, 10);
        }
        Expect.same("12 deepest", 39, x.depthOf(39));
        Expect.same("14 in a chain", 17, x.commonAncestor(39, 17));
        Expect.same("14 in a chain", 0, x.commonAncestor(0, 39));
    }

    private static void commonAncestors() {
        VectorVersions x = sample();
        Expect.same("14 same", 2, x.commonAncestor(2, 2));
        Expect.same("14 same root", 0, x.commonAncestor(0, 0));
        Expect.same("14 other above", 1, x.commonAncestor(2, 1));
        Expect.same("14 version above", 1, x.commonAncestor(1, 2));
        Expect.same("14 branches", 0, x.commonAncestor(2, 3));
        Expect.same("14 branches", 0, x.commonAncestor(3, 2));
        x.append(2, 1);
        x.append(2, 2);
        Expect.same("14 nearest", 2, x.commonAncestor(4, 5));
        Expect.same("14 uneven depths", 0, x.commonAncestor(3, 5));
        Expect.noPlace("14 no version", () -> x.commonAncestor(-1, 0));
        Expect.noPlace("14 no other", () -> x.commonAncestor(0, 6));
    }

    private static void sizesAndHeights() {
        VectorVersions x = sample();
        Expect.same("15 first", 10, x.size(0));
        Expect.same("15 longer", 11, x.size(2));
        Expect.same("15 empty", 0, x.size(3));
        int[] sizes = {0, 1, 4, 5, 16, 17, 63, 64};
        int[] heights = {0, 1, 1, 2, 2, 3, 3, 3};
        for (int i = 0; i < sizes.length; i++) {
            VectorVersions y = Texts.loaded(Texts.counting(sizes[i]));
            Expect.same("15 size", sizes[i], y.size(0));
            Expect.same("16 height of " + sizes[i], heights[i], y.height(0));
        }
        VectorVersions y = Texts.loaded(Texts.counting(64));
        for (int i = 0; i < sizes.length; i++) {
            int version = y.truncate(0, sizes[i]);
            Expect.same("16 height after truncating to " + sizes[i], heights[i], y.height(version));
        }
    }

    private static void roots() {
        VectorVersions x = sample();
        Expect.same("17 first", 3, x.rootOf(0));
        Expect.same("17 longer", 7, x.rootOf(2));
        Expect.same("17 empty", -1, x.rootOf(3));
        Expect.same("17 empty setup", -1, Texts.loaded("").rootOf(0));
        Expect.same("17 one leaf", 0, Texts.loaded("list 1 2 3 4;").rootOf(0));
    }

    private static void elements() {
        VectorVersions x = sample();
        int[] due = {5, -2, 7, 7, 0, 20, 3, 1, 9, 4, 999};
        int[] leaves = {0, 0, 0, 0, 4, 4, 4, 4, 6, 6, 6};
        for (int i = 0; i < due.length; i++) {
            Expect.same("18 element " + i, due[i], x.get(2, i));
            Expect.same("19 leaf of " + i, leaves[i], x.leafOf(2, i));
        }
        Expect.same("18 old version", 12, x.get(0, 5));
        Expect.same("19 old version", 1, x.leafOf(0, 5));
        for (int index : new int[] {-1, 10, 64, Integer.MIN_VALUE, Integer.MAX_VALUE}) {
            Expect.noPlace("18 no element", () -> x.get(0, index));
            Expect.noPlace("19 no element", () -> x.leafOf(0, index));
            Expect.badState("18 no element of a released version", () -> x.get(1, index));
            Expect.badState("19 no element of a released version", () -> x.leafOf(1, index));
        }
        Expect.noPlace("18 empty", () -> x.get(3, 0));
        Expect.noPlace("19 empty", () -> x.leafOf(3, 0));
        VectorVersions y = Texts.loaded(Texts.counting(64));
        for (int i = 0; i < 64; i++) {
            Expect.same("18 three levels", i, y.get(0, i));
            Expect.same("19 three levels", i / 4, y.leafOf(0, i));
        }
    }

    private static void sums() {
        VectorVersions x = sample();
        Expect.same("20 first", 46, x.sum(0));
        Expect.same("20 longer", 1053, x.sum(2));
        Expect.same("20 empty", 0, x.sum(3));
        Expect.same("20 negative", -1998, Texts.loaded("list minus 999 minus 999;").sum(0));
        Expect.same("20 all", 2016, Texts.loaded(Texts.counting(64)).sum(0));
    }

    private static void searches() {
        VectorVersions x = sample();
        Expect.same("21 first of two", 2, x.indexOf(0, 7));
        Expect.same("21 index 0", 0, x.indexOf(0, 5));
        Expect.same("21 last", 9, x.indexOf(0, 4));
        Expect.same("21 negative", 1, x.indexOf(0, -2));
        Expect.same("21 minus one is no element", -1, x.indexOf(0, -1));
        Expect.same("21 changed", -1, x.indexOf(2, 12));
        Expect.same("21 empty", -1, x.indexOf(3, 0));
        Expect.same("21 out of range", -1, x.indexOf(0, 1000));
        Expect.same("21 smallest int", -1, x.indexOf(0, Integer.MIN_VALUE));
        Expect.same("21 element -1", 0, Texts.loaded("list minus 1;").indexOf(0, -1));
    }

    private static void missingVersions() {
        VectorVersions x = sample();
        for (int version : NO_VERSIONS) {
            Expect.noPlace("10 isReleased", () -> x.isReleased(version));
            Expect.noPlace("11 parentOf", () -> x.parentOf(version));
            Expect.noPlace("12 depthOf", () -> x.depthOf(version));
            Expect.noPlace("13 childCount", () -> x.childCount(version));
            Expect.noPlace("14 commonAncestor", () -> x.commonAncestor(version, 0));
            Expect.noPlace("14 commonAncestor", () -> x.commonAncestor(0, version));
            Expect.noPlace("15 size", () -> x.size(version));
            Expect.noPlace("16 height", () -> x.height(version));
            Expect.noPlace("17 rootOf", () -> x.rootOf(version));
            Expect.noPlace("18 get", () -> x.get(version, 0));
            Expect.noPlace("19 leafOf", () -> x.leafOf(version, 0));
            Expect.noPlace("20 sum", () -> x.sum(version));
            Expect.noPlace("21 indexOf", () -> x.indexOf(version, 0));
        }
        x.undo();
        x.undo();
        Expect.noPlace("10 undone version", () -> x.isReleased(3));
    }

    private static void releasedVersions() {
        VectorVersions x = sample();
        Expect.badState("15 size", () -> x.size(1));
        Expect.badState("16 height", () -> x.height(1));
        Expect.badState("17 rootOf", () -> x.rootOf(1));
        Expect.badState("18 get", () -> x.get(1, 0));
        Expect.badState("19 leafOf", () -> x.leafOf(1, 0));
        Expect.badState("20 sum", () -> x.sum(1));
        Expect.badState("21 indexOf", () -> x.indexOf(1, 0));
    }
}
