/** Promises 33 to 42: comparisons, forecasts, and what is told of the whole store. */
public final class CompareTest {
    private CompareTest() {
    }

    public static void main(String[] args) {
        differences();
        costs();
        pairErrors();
        nodesForSet();
        nodesForAppend();
        garbageForecasts();
        largest();
        degrees();
        consistent();
        Expect.finish("CompareTest");
    }

    private static void differences() {
        VectorVersions x = new VectorVersions();
        x.set(0, 5, 20);
        x.set(1, 9, 0);
        x.append(2, 3);
        x.truncate(0, 0);
        Expect.same("33 same version", 0, x.differences(0, 0));
        Expect.same("33 one element", 1, x.differences(0, 1));
        Expect.same("33 two elements", 2, x.differences(2, 0));
        Expect.same("33 two elements and the size", 3, x.differences(0, 3));
        Expect.same("33 sizes the other way round", 3, x.differences(3, 0));
        Expect.same("33 with the empty vector", 11, x.differences(4, 3));
        Expect.same("33 both empty", 0, x.differences(4, 4));
        Expect.same("34 same version", -1, x.firstDifference(0, 0));
        Expect.same("34 one element", 5, x.firstDifference(0, 1));
        Expect.same("34 first of two", 5, x.firstDifference(2, 0));
        Expect.same("34 behind the end", 10, x.firstDifference(2, 3));
        Expect.same("34 behind the end of the other", 10, x.firstDifference(3, 2));
        Expect.same("34 before the end", 5, x.firstDifference(3, 0));
        Expect.same("34 with the empty vector", 0, x.firstDifference(4, 0));
        Expect.same("34 both empty", -1, x.firstDifference(4, 4));
        x.set(1, 5, 12);
        Expect.same("33 equal with other nodes", 0, x.differences(0, 5));
        Expect.same("34 equal with other nodes", -1, x.firstDifference(0, 5));
    }

    private static void costs() {
        VectorVersions x = new VectorVersions();
        x.set(0, 5, 20);
        x.set(1, 5, 12);
        x.set(0, 0, 1);
        x.truncate(0, 8);
        x.truncate(0, 4);
        x.truncate(0, 0);
        x.append(6, 1);
        Expect.same("35 same version", 0, x.comparisonCost(0, 0));
        Expect.same("35 root and leaf", 2, x.comparisonCost(0, 1));
        Expect.same("35 equal elements in other nodes", 2, x.comparisonCost(0, 2));
        Expect.same("35 two leaves", 3, x.comparisonCost(1, 3));
        Expect.same("35 without a partner", 1, x.comparisonCost(0, 4));
        Expect.same("35 without a partner", 1, x.comparisonCost(4, 0));
        Expect.same("35 different heights", -1, x.comparisonCost(0, 5));
        Expect.same("35 different heights", -1, x.comparisonCost(5, 0));
        Expect.same("35 empty and leaf", -1, x.comparisonCost(6, 5));
        Expect.same("35 both empty", 0, x.comparisonCost(6, 6));
        Expect.same("35 two leaves as roots", 1, x.comparisonCost(5, 7));
        VectorVersions y = Texts.loaded(Texts.counting(64));
        y.set(0, 0, 99);
        y.set(1, 63, 99);
        y.set(2, 5, 99);
        Expect.same("35 three levels", 3, y.comparisonCost(0, 1));
        Expect.same("35 three levels, two paths", 5, y.comparisonCost(0, 2));
        Expect.same("35 three levels, common branch", 6, y.comparisonCost(0, 3));
    }

    private static void pairErrors() {
        VectorVersions x = new VectorVersions();
        x.truncate(0, 3);
        x.release(0);
        for (int version : new int[] {-1, 2, Integer.MIN_VALUE, Integer.MAX_VALUE}) {
            Expect.noPlace("33 version", () -> x.differences(version, 0));
            Expect.noPlace("33 other", () -> x.differences(0, version));
            Expect.noPlace("34 version", () -> x.firstDifference(version, 0));
            Expect.noPlace("34 other", () -> x.firstDifference(0, version));
            Expect.noPlace("35 version", () -> x.comparisonCost(version, 0));
            Expect.noPlace("35 other", () -> x.comparisonCost(0, version));
        }
        Expect.badState("33 version", () -> x.differences(0, 1));
        Expect.badState("33 other", () -> x.differences(1, 0));
        Expect.badState("34 version", () -> x.firstDifference(0, 1));
        Expect.badState("34 other", () -> x.firstDifference(1, 0));
        Expect.badState("35 version", () -> x.comparisonCost(0, 1));
        Expect.badState("35 other", () -> x.comparisonCost(1, 0));
    }

    private static void nodesForSet() {
        VectorVersions x = new VectorVersions();
        Expect.same("36 same value", 0, x.nodesForSet(0, 1, -2));
        Expect.same("36 two levels", 2, x.nodesForSet(0, 1, 2));
        Expect.same("36 one level", 1, Texts.loaded("list 1;").nodesForSet(0, 0, -999));
        Expect.same("36 three levels", 3, Texts.loaded(Texts.counting(17)).nodesForSet(0, 0, 999));
        Expect.same("36 changes nothing", 1, x.versionCount());
        Expect.noPlace("36 no version", () -> x.nodesForSet(1, 0, 1000));
        Expect.noPlace("36 no element", () -> x.nodesForSet(0, 10, 1000));
        Expect.noPlace("36 negative index", () -> x.nodesForSet(0, -1, 0));
        Expect.badArgument("36 too great", () -> x.nodesForSet(0, 0, 1000));
        Expect.badArgument("36 too small", () -> x.nodesForSet(0, 0, -1000));
        x.truncate(0, 1);
        x.release(0);
        Expect.badArgument("36 released, bad value", () -> x.nodesForSet(0, 0, 1000));
        Expect.badArgument("36 released, bad value and index", () -> x.nodesForSet(0, -1, Integer.MIN_VALUE));
        Expect.badState("36 released", () -> x.nodesForSet(0, 0, 0));
        Expect.badState("36 released, bad index", () -> x.nodesForSet(0, 64, 0));
        forecastsOfFullStore();
    }

    private static void forecastsOfFullStore() {
        VectorVersions x = new VectorVersions();
        for (int i = 1; i < 40; i++) {
            x.truncate(0, 10);
        }
        Expect.same("36 forty versions", 2, x.nodesForSet(0, 0, 0));
        Expect.same("37 forty versions", 2, x.nodesForAppend(0));
    }

    private static void nodesForAppend() {
        int[] sizes = {0, 1, 3, 4, 15, 16, 63, 64};
        int[] due = {1, 1, 1, 2, 2, 3, 3, -1};
        for (int i = 0; i < sizes.length; i++) {
            VectorVersions x = Texts.loaded(Texts.counting(sizes[i]));
            Expect.same("37 size " + sizes[i], due[i], x.nodesForAppend(0));
            Expect.same("37 changes nothing", 1, x.versionCount());
        }
        VectorVersions x = new VectorVersions();
        x.release(0);
        Expect.noPlace("37 no version", () -> x.nodesForAppend(1));
        Expect.noPlace("37 negative", () -> x.nodesForAppend(-1));
        Expect.badState("37 released", () -> x.nodesForAppend(0));
    }

    private static void garbageForecasts() {
        VectorVersions x = new VectorVersions();
        Expect.same("38 only version", 4, x.garbageIfReleased(0));
        x.set(0, 0, 1);
        x.set(0, 9, 1);
        Expect.same("38 only the root", 1, x.garbageIfReleased(0));
        Expect.same("38 leaf and root", 2, x.garbageIfReleased(1));
        Expect.same("38 changes nothing", 0, x.garbageNodes());
        x.release(1);
        Expect.same("38 without the garbage before", 2, x.garbageIfReleased(0));
        x.release(0);
        Expect.same("38 all", 4, x.garbageIfReleased(2));
        x.truncate(2, 10);
        Expect.same("38 same root twice", 0, x.garbageIfReleased(2));
        Expect.noPlace("38 no version", () -> x.garbageIfReleased(4));
        Expect.noPlace("38 negative", () -> x.garbageIfReleased(-1));
        Expect.badState("38 released", () -> x.garbageIfReleased(0));
    }

    private static void largest() {
        VectorVersions x = new VectorVersions();
        Expect.same("39 only version", 0, x.largestVersion());
        x.truncate(0, 0);
        x.append(0, 1);
        x.append(0, 2);
        Expect.same("39 smallest number in a tie", 2, x.largestVersion());
        x.release(2);
        Expect.same("39 released", 3, x.largestVersion());
        x.release(3);
        x.release(0);
        Expect.same("39 empty vector", 1, x.largestVersion());
        x.release(1);
        Expect.same("39 none", -1, x.largestVersion());
    }

    private static void degrees() {
        VectorVersions x = new VectorVersions();
        Expect.same("40 one version", 1.0, x.sharing());
        Expect.same("41 no garbage", 0.0f, x.garbagePart());
        x.set(0, 0, 1);
        Expect.same("40 eight by six", 8.0 / 6.0, x.sharing());
        x.set(0, 0, 2);
        Expect.same("40 twelve by eight", 1.5, x.sharing());
        x.release(0);
        Expect.same("40 garbage does not count", 8.0 / 6.0, x.sharing());
        Expect.same("41 two of eight", 0.25f, x.garbagePart());
        x.release(1);
        Expect.same("41 four of eight", 0.5f, x.garbagePart());
        x.release(2);
        Expect.same("40 nothing reached", 0.0, x.sharing());
        Expect.same("41 all", 1.0f, x.garbagePart());
        x.collect();
        Expect.same("40 nothing stored", 0.0, x.sharing());
        Expect.same("41 nothing stored", 0.0f, x.garbagePart());
        Expect.same("40 empty setup", 0.0, Texts.loaded("").sharing());
        VectorVersions y = new VectorVersions();
        y.append(0, 1);
        y.release(0);
        Expect.same("41 a third, divided as floats", 2.0f / 6.0f, y.garbagePart());
    }

    private static void consistent() {
        VectorVersions x = Texts.loaded(Texts.counting(16));
        Expect.same("42 setup", true, x.isConsistent());
        Texts.run(x, "append 0 1;set 1 0 5;truncate 2 15;release 1;truncate 3 0;append 5 7;");
        Expect.same("42 script", true, x.isConsistent());
        x.collect();
        Expect.same("42 collected", true, x.isConsistent());
        x.saveState();
        x.undo();
        x.undo();
        Expect.same("42 undone", true, x.isConsistent());
        x.set(0, 3, 4);
        x.restoreState();
        Expect.same("42 restored", true, x.isConsistent());
        Expect.same("42 empty setup", true, Texts.loaded("").isConsistent());
    }
}
