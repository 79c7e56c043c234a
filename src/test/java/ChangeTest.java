import java.util.NoSuchElementException;

/** Promises 43 to 52: changes and their undoing, the output and the saved state. */
public final class ChangeTest {
    private ChangeTest() {
    }

    public static void main(String[] args) {
        set();
        append();
        appendNumbers();
        truncate();
        truncateNumbers();
        fullStore();
        release();
        collect();
        undo();
        undoKeepsTheRest();
        undoAfterManyChanges();
        refusedCallsChangeNothing();
        writeVersion();
        outputByte();
        savedState();
        savedStateAndUndo();
        savedStateAfterOtherChanges();
        Expect.finish("ChangeTest");
    }

    private static void set() {
        VectorVersions x = new VectorVersions();
        Expect.same("43 number", 1, x.set(0, 5, -999));
        Expect.same("43 elements", "[5,-2,7,7|0,-999,3,1|9,4]", Texts.written(x, 1));
        Expect.same("43 old version", "[5,-2,7,7|0,12,3,1|9,4]", Texts.written(x, 0));
        Expect.same("43 new leaf first", 4, x.leafOf(1, 5));
        Expect.same("43 root last", 5, x.rootOf(1));
        Expect.same("43 old leaf beside", 0, x.leafOf(1, 0));
        Expect.same("43 same value", 2, x.set(1, 5, -999));
        Expect.same("43 same root", 5, x.rootOf(2));
        Expect.same("43 no node", 0, x.nodesCreatedFor(2));
        Expect.same("43 size", 10, x.size(2));
        VectorVersions y = Texts.loaded(Texts.counting(64));
        y.set(0, 21, 999);
        Expect.same("43 leaf on three levels", 21, y.leafOf(1, 21));
        Expect.same("43 inner node", 22, y.childOf(23, 1));
        Expect.same("43 leaf in the inner node", 21, y.childOf(22, 1));
        Expect.same("43 root", 23, y.rootOf(1));
        Expect.same("43 shared inner node", 16, y.childOf(23, 0));
        setErrors(x);
    }

    private static void setErrors(VectorVersions x) {
        Expect.noPlace("43 no version", () -> x.set(3, 0, 1000));
        Expect.noPlace("43 negative version", () -> x.set(-1, 0, 0));
        Expect.noPlace("43 no element", () -> x.set(0, 10, 1000));
        Expect.noPlace("43 negative index", () -> x.set(0, -1, 0));
        Expect.badArgument("43 too great", () -> x.set(0, 0, 1000));
        Expect.badArgument("43 too small", () -> x.set(0, 0, -1000));
        x.release(0);
        Expect.badArgument("43 released, bad value", () -> x.set(0, 99, 1000));
        Expect.badState("43 released, bad index", () -> x.set(0, 99, 0));
        Expect.badState("43 released", () -> x.set(0, 0, 0));
    }

    private static void append() {
        VectorVersions x = new VectorVersions();
        Expect.same("44 number", 1, x.append(0, 999));
        Expect.same("44 elements", "[5,-2,7,7|0,12,3,1|9,4,999]", Texts.written(x, 1));
        Expect.same("44 old version", "[5,-2,7,7|0,12,3,1|9,4]", Texts.written(x, 0));
        Expect.same("44 created", 2, x.nodesCreatedFor(1));
        Expect.same("44 from another branch", 2, x.append(0, -999));
        Expect.same("44 elements", "[5,-2,7,7|0,12,3,1|9,4,-999]", Texts.written(x, 2));
        VectorVersions y = Texts.loaded("");
        for (int i = 0; i < 39; i++) {
            y.append(i, i);
            Expect.same("44 created for size " + (i + 1), i < 4 ? 1 : i < 16 ? 2 : 3, y.nodesCreatedFor(i + 1));
            Expect.same("44 sum for size " + (i + 1), i * (i + 1) / 2, y.sum(i + 1));
        }
        Expect.noPlace("44 no version", () -> x.append(3, 1000));
        Expect.noPlace("44 negative version", () -> x.append(-1, 0));
        Expect.badArgument("44 too great", () -> x.append(0, 1000));
        Expect.badArgument("44 too small", () -> x.append(0, -1000));
        x.release(0);
        Expect.badArgument("44 released, bad value", () -> x.append(0, 1000));
        Expect.badState("44 released", () -> x.append(0, 0));
        VectorVersions z = Texts.loaded(Texts.counting(64));
        Expect.badState("44 full vector", () -> z.append(0, 0));
        Expect.badArgument("44 full vector, bad value", () -> z.append(0, 1000));
        z.truncate(0, 63);
        Expect.same("44 last element", 2, z.append(1, -1));
        Expect.same("44 last element", -1, z.get(2, 63));
    }

    private static void appendNumbers() {
        VectorVersions x = Texts.loaded(Texts.counting(16));
        x.append(0, 16);
        Expect.same("44 leaf", 5, x.leafOf(1, 16));
        Expect.same("44 inner node", 6, x.childOf(7, 1));
        Expect.same("44 old root first", 4, x.childOf(7, 0));
        Expect.same("44 root", 7, x.rootOf(1));
        x.append(1, 17);
        Expect.same("44 leaf anew", 8, x.leafOf(2, 17));
        Expect.same("44 inner node anew", 9, x.childOf(10, 1));
        Expect.same("44 old branch", 4, x.childOf(10, 0));
        VectorVersions y = Texts.loaded("list 1 2 3 4;");
        y.append(0, 5);
        Expect.same("44 second leaf", 1, y.childOf(2, 1));
        Expect.same("44 old root is the first leaf", 0, y.childOf(2, 0));
        Expect.same("44 first leaf stays a root", 2, y.referencesTo(0));
    }

    private static void truncate() {
        VectorVersions x = new VectorVersions();
        Expect.same("45 number", 1, x.truncate(0, 6));
        Expect.same("45 elements", "[5,-2,7,7|0,12]", Texts.written(x, 1));
        Expect.same("45 old version", "[5,-2,7,7|0,12,3,1|9,4]", Texts.written(x, 0));
        Expect.same("45 created", 2, x.nodesCreatedFor(1));
        Expect.same("45 same size", 2, x.truncate(1, 6));
        Expect.same("45 same root", 5, x.rootOf(2));
        Expect.same("45 to nothing", 3, x.truncate(1, 0));
        Expect.same("45 no root", -1, x.rootOf(3));
        Expect.same("45 empty again", 4, x.truncate(3, 0));
        Expect.same("45 no node", 0, x.nodesCreatedFor(4));
        Expect.noPlace("45 no version", () -> x.truncate(5, -1));
        Expect.noPlace("45 negative version", () -> x.truncate(-1, 0));
        Expect.badArgument("45 negative size", () -> x.truncate(0, -1));
        Expect.badArgument("45 too great", () -> x.truncate(0, 11));
        Expect.badArgument("45 greatest int", () -> x.truncate(0, Integer.MAX_VALUE));
        Expect.badArgument("45 empty", () -> x.truncate(3, 1));
        x.release(0);
        Expect.badArgument("45 released, negative size", () -> x.truncate(0, -1));
        Expect.badState("45 released, too great", () -> x.truncate(0, 65));
        Expect.badState("45 released", () -> x.truncate(0, 0));
    }

    private static void truncateNumbers() {
        VectorVersions x = Texts.loaded(Texts.counting(64));
        int[] sizes = {63, 60, 48, 33, 17, 16, 12, 5, 4, 1, 20};
        int[] created = {3, 2, 1, 3, 3, 0, 1, 2, 0, 1, 2};
        int[] roots = {23, 25, 26, 29, 32, 16, 33, 35, 0, 36, 38};
        for (int i = 0; i < sizes.length; i++) {
            int version = x.truncate(0, sizes[i]);
            Expect.same("45 created for " + sizes[i], created[i], x.nodesCreatedFor(version));
            Expect.same("45 root for " + sizes[i], roots[i], x.rootOf(version));
            Expect.same("45 sum for " + sizes[i], sizes[i] * (sizes[i] - 1) / 2, x.sum(version));
        }
        Expect.same("45 leaf of 63", 21, x.leafOf(1, 62));
        Expect.same("45 used leaf of 60", 14, x.leafOf(2, 59));
        Expect.same("45 used branch of 48", 18, x.childOf(26, 2));
        VectorVersions y = Texts.loaded(Texts.counting(18));
        y.truncate(0, 17);
        Expect.same("45 last path anew", 3, y.nodesCreatedFor(1));
        y.append(1, 5);
        y.truncate(2, 16);
        Expect.same("45 old root again", y.childOf(y.rootOf(0), 0), y.rootOf(3));
    }

    private static void fullStore() {
        VectorVersions x = new VectorVersions();
        for (int i = 1; i < 40; i++) {
            Expect.same("45 up to forty versions", i, x.truncate(0, 10));
        }
        Expect.badState("43 forty versions", () -> x.set(0, 0, 1));
        Expect.badState("44 forty versions", () -> x.append(0, 1));
        Expect.badState("45 forty versions", () -> x.truncate(0, 1));
        Expect.noPlace("43 forty versions, no element", () -> x.set(0, 10, 1));
        Expect.badArgument("43 forty versions, bad value", () -> x.set(0, 0, 1000));
        Expect.badArgument("44 forty versions, bad value", () -> x.append(0, 1000));
        Expect.badArgument("45 forty versions, bad size", () -> x.truncate(0, 11));
        Expect.noPlace("44 forty versions, no version", () -> x.append(40, 1));
        x.release(39);
        Expect.badState("43 released versions count", () -> x.set(0, 0, 1));
        x.undo();
        x.undo();
        Expect.same("43 room again", 39, x.set(0, 0, 1));
        mostNodes();
    }

    private static void mostNodes() {
        VectorVersions x = Texts.loaded(Texts.counting(64));
        for (int i = 1; i < 40; i++) {
            x.set(i - 1, 63, 500 + i);
        }
        Expect.same("43 most nodes", 138, x.createdNodes());
        Expect.same("43 last root", 137, x.rootOf(39));
        Expect.same("43 last element", 539, x.get(39, 63));
        Expect.same("42 most nodes", true, x.isConsistent());
        Expect.noPlace("29 behind the last node", () -> x.isLeaf(138));
    }

    private static void release() {
        VectorVersions x = new VectorVersions();
        x.set(0, 0, 1);
        x.append(0, 2);
        Expect.same("46 only the root", 1, x.release(0));
        Expect.same("46 leaves too", 4, x.release(1));
        Expect.same("46 stored", 8, x.storedNodes());
        x.collect();
        Expect.same("46 last one", 4, x.release(2));
        Expect.same("46 nothing live", 0, x.liveCount());
        Expect.badState("46 twice", () -> x.release(2));
        Expect.noPlace("46 no version", () -> x.release(3));
        Expect.noPlace("46 negative", () -> x.release(-1));
        Expect.same("46 change", 5, x.undo());
        Expect.same("46 live again", 11, x.size(2));
    }

    private static void collect() {
        VectorVersions x = new VectorVersions();
        Expect.same("47 nothing", 0, x.collect());
        Expect.same("47 nothing is a change too", 0, x.undo());
        x.set(0, 0, 1);
        x.release(0);
        Expect.same("47 two", 2, x.collect());
        Expect.same("47 no more", 0, x.collect());
        Expect.noPlace("47 old root is gone", () -> x.entryCount(3));
        Expect.same("47 shared leaf stays", 4, x.entryCount(1));
        Expect.same("47 numbers are not used again", 2, x.set(1, 0, 7));
        Expect.same("47 next root", 7, x.rootOf(2));
        x.undo();
        x.undo();
        Expect.same("47 change", 2, x.undo());
        Expect.same("47 stored again", 3, x.entryCount(3));
        Expect.same("47 garbage again", 2, x.garbageNodes());
    }

    private static void undo() {
        VectorVersions x = new VectorVersions();
        x.set(0, 0, 5);
        x.append(0, 1);
        x.truncate(0, 2);
        x.release(1);
        x.collect();
        Texts.run(x, "append 0 2;append 0 3;");
        Expect.same("48 script", 5, x.undo());
        Expect.same("48 versions of the script", 4, x.versionCount());
        Expect.same("48 collect", 4, x.undo());
        Expect.same("48 release", 3, x.undo());
        Expect.same("48 live again", false, x.isReleased(1));
        Expect.same("48 truncate", 2, x.undo());
        Expect.same("48 nodes of truncate", 6, x.createdNodes());
        Expect.same("48 append", 1, x.undo());
        Expect.same("48 nodes of append", 4, x.createdNodes());
        Expect.same("48 set", 0, x.undo());
        Expect.same("48 versions", 1, x.versionCount());
        Expect.throwing("48 no more", NoSuchElementException.class, x::undo);
        Expect.same("48 number again", 1, x.append(0, 77));
        Expect.same("48 node numbers again", 5, x.rootOf(1));
        Expect.same("48 new elements", 77, x.get(1, 10));
        Expect.same("48 children", 1, x.childCount(0));
    }

    private static void undoKeepsTheRest() {
        VectorVersions x = new VectorVersions();
        x.set(0, 0, 1);
        x.saveState();
        x.set(0, 0, 2);
        Texts.load(x, "list ?");
        Texts.feed(x, "append 0 1;");
        Texts.written(x, 2);
        x.undo();
        x.undo();
        Expect.same("48 error stays", 1, x.errorCode());
        Expect.same("48 error offset stays", 5, x.errorOffset());
        Expect.same("48 output stays", "[2,-2,7,7|0,12,3,1|9,4]", Texts.output(x));
        Expect.same("48 input stays", 1, x.runScript());
        x.undo();
        Expect.same("48 saved state stays", 2, x.restoreState());
        Expect.same("48 saved state stays", 1, x.get(1, 0));
    }

    private static void undoAfterManyChanges() {
        VectorVersions x = new VectorVersions();
        for (int i = 0; i < 20; i++) {
            x.append(0, i);
        }
        for (int i = 7; i >= 0; i--) {
            Expect.same("48 eight changes", i, x.undo());
        }
        Expect.same("48 the oldest are dropped", 13, x.versionCount());
        Expect.throwing("48 no ninth", NoSuchElementException.class, x::undo);
        x.append(0, 1);
        x.append(0, 2);
        x.undo();
        x.append(0, 3);
        Expect.same("48 after an undone change", 1, x.undo());
        Expect.same("48 after an undone change", 0, x.undo());
        Expect.same("48 versions", 13, x.versionCount());
    }

    private static void refusedCallsChangeNothing() {
        VectorVersions x = new VectorVersions();
        x.release(0);
        Expect.answer(() -> x.set(0, 0, 0));
        Expect.answer(() -> x.append(0, 0));
        Expect.answer(() -> x.truncate(0, 0));
        Expect.answer(() -> x.release(0));
        Expect.answer(() -> x.writeVersion(0));
        Expect.answer(x::restoreState);
        Expect.same("43 to 46 no change", 0, x.undo());
        Expect.same("43 to 46 versions", 1, x.versionCount());
        Expect.same("49 no output", -1, x.outputByte(0));
    }

    private static void writeVersion() {
        VectorVersions x = Texts.loaded("list 0 minus 1 10 99;list 100 minus 999 999 minus 10;list 101;");
        Expect.same("49 length", 33, x.writeVersion(0));
        Expect.same("49 output", "[0,-1,10,99|100,-999,999,-10|101]", Texts.output(x));
        x.truncate(0, 0);
        Expect.same("49 empty", 2, x.writeVersion(1));
        Expect.same("49 replaces", "[]", Texts.output(x));
        x.append(1, -5);
        Expect.same("49 one", 4, x.writeVersion(2));
        Expect.same("49 one", "[-5]", Texts.output(x));
        x.truncate(0, 4);
        Expect.same("49 full leaf", "[0,-1,10,99]", Texts.written(x, 3));
        x.release(1);
        Expect.badState("49 released", () -> x.writeVersion(1));
        Expect.noPlace("49 no version", () -> x.writeVersion(4));
        Expect.noPlace("49 negative", () -> x.writeVersion(-1));
        Expect.same("49 refusal keeps the output", "[0,-1,10,99]", Texts.output(x));
        Expect.same("49 is no change", 3, x.undo());
        longestOutput();
    }

    private static void longestOutput() {
        String setup = "list " + "minus999".repeat(64) + ";";
        VectorVersions x = Texts.loaded(setup);
        Expect.same("49 longest", 321, x.writeVersion(0));
        Expect.same("49 last byte", 93, x.outputByte(320));
        Expect.same("49 behind it", -1, x.outputByte(321));
    }

    private static void outputByte() {
        VectorVersions x = new VectorVersions();
        Expect.same("50 before any output", -1, x.outputByte(0));
        x.writeVersion(0);
        Expect.same("50 bracket", 91, x.outputByte(0));
        Expect.same("50 digit", 53, x.outputByte(1));
        Expect.same("50 comma", 44, x.outputByte(2));
        Expect.same("50 minus", 45, x.outputByte(3));
        Expect.same("50 bar", 124, x.outputByte(9));
        Expect.same("50 closing bracket", 93, x.outputByte(22));
        Expect.same("50 behind the end", -1, x.outputByte(23));
        Expect.same("50 negative", -1, x.outputByte(-1));
        Expect.same("50 greatest int", -1, x.outputByte(Integer.MAX_VALUE));
        Expect.same("50 smallest int", -1, x.outputByte(Integer.MIN_VALUE));
        x.truncate(0, 0);
        x.writeVersion(1);
        Expect.same("50 behind a shorter output", -1, x.outputByte(2));
    }

    private static void savedState() {
        VectorVersions x = new VectorVersions();
        Expect.throwing("52 nothing saved", NoSuchElementException.class, x::restoreState);
        x.set(0, 0, 1);
        x.release(0);
        Expect.same("51 versions", 2, x.saveState());
        x.collect();
        x.append(1, 3);
        x.append(2, 4);
        Expect.same("52 versions", 2, x.restoreState());
        Expect.throwing("52 nothing to undo", NoSuchElementException.class, x::undo);
        Expect.same("52 not collected", 6, x.storedNodes());
        Expect.same("52 garbage", 2, x.garbageNodes());
        Expect.same("52 created", 6, x.createdNodes());
        Expect.same("52 released", true, x.isReleased(0));
        Expect.same("52 number again", 2, x.truncate(1, 0));
        Expect.same("52 stays saved", 2, x.restoreState());
        x.append(1, 3);
        Expect.same("51 replaces", 3, x.saveState());
        x.append(1, 3);
        Expect.same("52 the newer one", 3, x.restoreState());
    }

    private static void savedStateAfterOtherChanges() {
        VectorVersions x = new VectorVersions();
        x.append(0, 1);
        x.set(1, 0, 9);
        x.saveState();
        x.undo();
        x.undo();
        x.truncate(0, 8);
        x.truncate(0, 4);
        Expect.same("52 before", false, x.isLeaf(4));
        x.restoreState();
        Expect.same("52 leaf again", true, x.isLeaf(4));
        Expect.same("52 entries again", 3, x.entryCount(4));
        Expect.same("52 parent again", 1, x.parentOf(2));
        Expect.same("52 root again", 7, x.rootOf(2));
        Expect.same("52 size again", 11, x.size(2));
        Expect.same("52 created again", 2, x.nodesCreatedFor(2));
        Expect.same("52 elements again", "[9,-2,7,7|0,12,3,1|9,4,1]", Texts.written(x, 2));
        Expect.same("52 consistent", true, x.isConsistent());
    }

    private static void savedStateAndUndo() {
        VectorVersions x = new VectorVersions();
        x.append(0, 1);
        x.append(1, 2);
        x.saveState();
        Expect.same("51 keeps the changes", 1, x.undo());
        x.undo();
        x.set(0, 0, 99);
        x.set(1, 0, 98);
        Expect.same("52 versions", 3, x.restoreState());
        Expect.same("52 overwritten versions", "[5,-2,7,7|0,12,3,1|9,4,1,2]", Texts.written(x, 2));
        Expect.same("52 overwritten nodes", 6, x.leafOf(2, 11));
        Expect.same("52 consistent", true, x.isConsistent());
        Texts.load(x, "list ?");
        Texts.feed(x, "collect;");
        Texts.written(x, 1);
        x.restoreState();
        Expect.same("52 output is not of the versions", "[5,-2,7,7|0,12,3,1|9,4,1]", Texts.output(x));
        Expect.same("52 error of the latest call", 1, x.errorCode());
        Expect.same("52 input is not of the versions", 1, x.runScript());
    }
}
