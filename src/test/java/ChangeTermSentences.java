import java.util.List;

/** The terms of changes, of the execution of scripts, and the constants. */
final class ChangeTermSentences {
    private static final String TERMS = "Terms";

    private interface Change {
        void on(VectorVersions x);
    }

    private ChangeTermSentences() {
    }

    static void hold(Sentences s) {
        s.hold(TERMS, "Every method whose description calls it a change can be undone if it succeeds, even if it leaves "
            + "everything as it was.", ChangeTermSentences::everyChange);
        s.hold(TERMS, "At most 8 changes are kept; a further change drops the oldest one.",
            ChangeTermSentences::eightChanges);
        s.hold(TERMS, "Undoing a change also takes back the numbers of versions and nodes.",
            ChangeTermSentences::numbersTakenBack);
        s.hold(TERMS, "A method that throws an exception changes nothing.", ChangeTermSentences::refusedCalls);
        s.hold(TERMS, "If several exceptions apply to a call, the one that is listed first is thrown.",
            ChangeTermSentences::listedFirst);
        s.hold(TERMS, "A number that is not that of a version, or not that of a stored node, causes an "
            + "IndexOutOfBoundsException.", ChangeTermSentences::noSuchNumber);
        s.hold(TERMS, "A forecast never changes anything.", ChangeTermSentences::forecasts);
        execution(s);
        constants(s);
    }

    private static void execution(Sentences s) {
        s.hold(TERMS, "The statements of a script are executed one after the other as the methods set, append, truncate, "
            + "release and collect.", ChangeTermSentences::asMethods);
        s.hold(TERMS, "Execution ends before the first statement whose method would throw an exception.",
            ChangeTermSentences::endOfExecution);
        s.hold(TERMS, "The statements before it remain executed.", ChangeTermSentences::remain);
    }

    private static void constants(Sentences s) {
        s.hold(TERMS, "The constants: `NONE = -1`: There is no such thing.",
            () -> Expect.same("NONE", -1, VectorVersions.NONE));
        s.hold(TERMS, "`NO_ERROR = 0`: No error.", () -> Expect.same("NO_ERROR", 0, VectorVersions.NO_ERROR));
        s.hold(TERMS, "`SYNTAX = 1`: Error code: a token or byte that cannot stand at this place.", () -> {
            Expect.same("SYNTAX", 1, VectorVersions.SYNTAX);
            code("list list;", VectorVersions.SYNTAX);
            code("list ?;", VectorVersions.SYNTAX);
        });
        s.hold(TERMS, "`OUT_OF_RANGE = 2`: Error code: a number outside its range.", () -> {
            Expect.same("OUT_OF_RANGE", 2, VectorVersions.OUT_OF_RANGE);
            VectorVersions x = new VectorVersions();
            Texts.run(x, "release 40;");
            Expect.same("code", VectorVersions.OUT_OF_RANGE, x.errorCode());
        });
        s.hold(TERMS, "`TOO_MANY = 3`: Error code: too many values or statements.", () -> {
            Expect.same("TOO_MANY", 3, VectorVersions.TOO_MANY);
            code(Texts.counting(65), VectorVersions.TOO_MANY);
        });
    }

    private static void code(String setup, int due) {
        VectorVersions x = new VectorVersions();
        Texts.load(x, setup);
        Expect.same("code of '" + setup + "'", due, x.errorCode());
    }

    // ---- changes ----

    private static void undone(String what, Change change) {
        VectorVersions x = new VectorVersions();
        x.set(0, 0, 1);
        String before = Stores.everything(x);
        change.on(x);
        Expect.same(what + " can be undone", 1, Expect.answer(x::undo));
        Expect.same(what + " is undone", before, Stores.everything(x));
        Expect.same(what + " is one change", 0, x.undo());
        Expect.nothingThere(what + " is only one", x::undo);
    }

    private static void everyChange() {
        undone("set", x -> x.set(1, 9, 5));
        undone("set to the same value", x -> x.set(1, 0, 1));
        undone("append", x -> x.append(0, 5));
        undone("truncate", x -> x.truncate(0, 5));
        undone("truncate to the same size", x -> x.truncate(0, 10));
        undone("truncate to 0", x -> x.truncate(0, 0));
        undone("release", x -> x.release(0));
        undone("collect without garbage", x -> x.collect());
        undone("script", x -> Texts.run(x, "append 0 1;release 0;collect;truncate 2 0;"));
        undone("empty script", x -> Texts.run(x, ""));
        undone("script that ends at once", x -> Texts.run(x, "release 7;"));
        VectorVersions y = new VectorVersions();
        y.set(0, 0, 1);
        y.release(0);
        String before = Stores.everything(y);
        Expect.same("collect with garbage", 2, y.collect());
        y.undo();
        Expect.same("collect with garbage is undone", before, Stores.everything(y));
        noChanges();
    }

    private static void noChanges() {
        VectorVersions x = new VectorVersions();
        x.writeVersion(0);
        x.saveState();
        Texts.run(x, "x");
        Texts.feed(x, "list 1");
        x.isConsistent();
        x.nodesForAppend(0);
        x.garbageIfReleased(0);
        Expect.nothingThere("other calls are no changes", x::undo);
    }

    private static void eightChanges() {
        for (int changes = 0; changes <= 20; changes++) {
            VectorVersions x = new VectorVersions();
            for (int i = 0; i < changes; i++) {
                x.append(i, i);
            }
            int kept = Math.min(changes, 8);
            for (int left = kept - 1; left >= 0; left--) {
                Expect.same(changes + " changes, " + left + " left", left, x.undo());
            }
            Expect.nothingThere(changes + " changes, no more", x::undo);
            Expect.same(changes + " changes, the oldest stay", changes - kept + 1, x.versionCount());
        }
        mixedChanges();
        undoneAndKeptAgain();
    }

    private static void mixedChanges() {
        VectorVersions x = new VectorVersions();
        x.set(0, 0, 1);
        x.collect();
        x.release(0);
        x.append(1, 1);
        x.truncate(1, 1);
        Texts.run(x, "");
        x.collect();
        x.collect();
        x.set(1, 0, 1);
        Expect.same("eight of nine", 8, Stores.undoAll(x));
        Expect.same("the first stays", 2, x.versionCount());
        Expect.same("the release is undone", false, x.isReleased(0));
    }

    private static void undoneAndKeptAgain() {
        VectorVersions x = new VectorVersions();
        for (int i = 0; i < 8; i++) {
            x.append(0, i);
        }
        x.undo();
        x.undo();
        x.append(0, 50);
        Expect.same("six and one", 6, x.undo());
        for (int i = 0; i < 3; i++) {
            x.append(0, 60 + i);
        }
        Expect.same("an undone change makes room for one", 8, Stores.undoAll(x));
        Expect.same("only the oldest was dropped", 2, x.versionCount());
        for (int i = 0; i < 8; i++) {
            x.append(0, 70 + i);
        }
        Expect.same("eight again", 7, x.undo());
        Expect.same("right one is undone", "70 76", x.get(2, 10) + " " + x.get(8, 10));
    }

    private static void numbersTakenBack() {
        VectorVersions x = new VectorVersions();
        x.set(0, 0, 1);
        x.undo();
        Expect.same("version", 1, x.append(0, 1));
        Expect.same("leaf", 4, x.leafOf(1, 10));
        Expect.same("root", 5, x.rootOf(1));
        Expect.same("created", 6, x.createdNodes());
        Expect.same("created for it", 2, x.nodesCreatedFor(1));
        Expect.same("entries of the new leaf", 3, x.entryCount(4));
        x.undo();
        Texts.run(x, "set 0 0 9;append 1 1;release 1;collect;");
        x.undo();
        Expect.same("versions of a script", 1, x.versionCount());
        Expect.same("nodes of a script", 4, x.createdNodes());
        Expect.noPlace("version of a script", () -> x.size(1));
        Expect.noPlace("node of a script", () -> x.isLeaf(4));
        Expect.same("version", 1, x.truncate(0, 1));
        Expect.same("root", 4, x.rootOf(1));
        Expect.same("a leaf now", true, x.isLeaf(4));
        Expect.same("not released", false, x.isReleased(1));
        VectorVersions y = Stores.withFortyVersions();
        y.undo();
        Expect.same("room for one more", 39, y.append(0, 1));
    }

    // ---- refused calls ----

    private static VectorVersions someVersions() {
        VectorVersions x = new VectorVersions();
        x.set(0, 0, 1);
        x.truncate(0, 0);
        x.release(0);
        x.writeVersion(1);
        Texts.run(x, "release 40;");
        return x;
    }

    private static List<Expect.Call> refusedBy(VectorVersions x) {
        return List.of(() -> x.set(3, 0, 0), () -> x.set(1, 10, 0), () -> x.set(2, 0, 0), () -> x.set(1, 0, 1000),
            () -> x.set(0, 0, 0));
    }

    private static List<Expect.Call> refusedByOthers(VectorVersions x) {
        return List.of(() -> x.append(3, 0), () -> x.append(1, 1000), () -> x.append(0, 0), () -> x.truncate(-1, 0),
            () -> x.truncate(1, 11), () -> x.truncate(1, -1), () -> x.truncate(0, 0), () -> x.release(3),
            () -> x.release(0), () -> x.writeVersion(0));
    }

    private static List<Expect.Call> refusedReading(VectorVersions x) {
        return List.of(() -> x.get(1, 10), () -> x.leafOf(2, 0), () -> x.size(0), () -> x.isLeaf(99),
            () -> x.nodesForSet(1, 0, 1000), () -> x.writeVersion(3), x::restoreState);
    }

    private static void refused(String what, VectorVersions x, List<Expect.Call> calls) {
        VectorVersions same = someVersions();
        for (Expect.Call call : calls) {
            Expect.same(what + " refused", true, Expect.answer(call).toString().endsWith("Exception"));
        }
        Expect.same(what + " change nothing", Stores.everything(same), Stores.everything(x));
        Expect.same(what + " are no changes", 3, Stores.undoAll(x));
    }

    private static void refusedCalls() {
        VectorVersions a = someVersions();
        refused("nothing is", a, List.of());
        VectorVersions b = someVersions();
        refused("set is", b, refusedBy(b));
        VectorVersions c = someVersions();
        refused("changes are", c, refusedByOthers(c));
        VectorVersions d = someVersions();
        refused("readings are", d, refusedReading(d));
        refusedByFullStores();
        refusedUndo();
    }

    private static void refusedByFullStores() {
        VectorVersions full = Stores.withFortyVersions();
        VectorVersions other = Stores.withFortyVersions();
        Expect.badState("set", () -> full.set(0, 0, 1));
        Expect.badState("append", () -> full.append(0, 1));
        Expect.badState("truncate", () -> full.truncate(0, 1));
        Expect.same("forty versions", Stores.everything(other), Stores.everything(full));
        Expect.same("no further change", 8, Stores.undoAll(full));
        VectorVersions x = Stores.counting(64);
        VectorVersions y = Stores.counting(64);
        Expect.badState("append", () -> x.append(0, 1));
        Expect.same("64 elements", Stores.everything(y), Stores.everything(x));
        Expect.nothingThere("no change", x::undo);
    }

    private static void refusedUndo() {
        VectorVersions x = new VectorVersions();
        VectorVersions y = new VectorVersions();
        Expect.nothingThere("undo", x::undo);
        Expect.nothingThere("restore", x::restoreState);
        Expect.same("everything", Stores.everything(y), Stores.everything(x));
        x.append(0, 1);
        Expect.same("one change", 0, x.undo());
        VectorVersions z = someVersions();
        Expect.nothingThere("restore keeps the changes", z::restoreState);
        Expect.same("all three", 3, Stores.undoAll(z));
    }

    private static void listedFirst() {
        VectorVersions x = new VectorVersions();
        x.release(0);
        Expect.noPlace("set: no version and a bad value", () -> x.set(1, 0, 1000));
        Expect.noPlace("append: no version and a bad value", () -> x.append(1, 1000));
        Expect.noPlace("truncate: no version and a negative size", () -> x.truncate(1, -1));
        Expect.noPlace("nodesForSet: no version and a bad value", () -> x.nodesForSet(1, 0, 1000));
        Expect.badArgument("set: bad value and released", () -> x.set(0, 0, 1000));
        Expect.badArgument("append: bad value and released", () -> x.append(0, 1000));
        Expect.badArgument("truncate: negative size and released", () -> x.truncate(0, -1));
        Expect.badArgument("nodesForSet: bad value and released", () -> x.nodesForSet(0, 0, 1000));
        Expect.noPlace("sharedNodes: released and no version", () -> x.sharedNodes(0, 1));
        Expect.noPlace("sharedNodes: no version and released", () -> x.sharedNodes(1, 0));
        Expect.noPlace("differences", () -> x.differences(0, 1));
        Expect.noPlace("firstDifference", () -> x.firstDifference(0, 1));
        Expect.noPlace("comparisonCost", () -> x.comparisonCost(0, 1));
        VectorVersions full = Stores.withFortyVersions();
        Expect.noPlace("set: no element and a bad value", () -> full.set(0, 10, 1000));
        Expect.noPlace("set: no element and forty versions", () -> full.set(0, 10, 0));
        Expect.noPlace("set: no version and forty versions", () -> full.set(40, 0, 0));
        Expect.badArgument("set: bad value and forty versions", () -> full.set(0, 0, 1000));
        Expect.noPlace("append: no version and forty versions", () -> full.append(40, 0));
        Expect.badArgument("append: bad value and forty versions", () -> full.append(0, 1000));
        Expect.noPlace("truncate: no version and forty versions", () -> full.truncate(40, 0));
        Expect.badArgument("truncate: too great and forty versions", () -> full.truncate(0, 11));
        Expect.badArgument("truncate: negative and forty versions", () -> full.truncate(0, -1));
        VectorVersions longest = Stores.counting(64);
        Expect.badArgument("append: bad value and 64 elements", () -> longest.append(0, 1000));
    }

    private static void noSuchNumber() {
        Refusals.noVersion((x, version) -> x.set(version, 0, 5));
        Refusals.noVersion((x, version) -> x.append(version, 5));
        Refusals.noVersion((x, version) -> x.truncate(version, 5));
        Refusals.noVersion(VectorVersions::release);
        Refusals.noVersion(VectorVersions::writeVersion);
        Refusals.noVersion(VectorVersions::isReleased);
        Refusals.noVersion(VectorVersions::garbageIfReleased);
        Refusals.noVersionOfTwo(VectorVersions::commonAncestor);
        Refusals.noNode(VectorVersions::isLeaf);
        Refusals.noNode(VectorVersions::referencesTo);
    }

    private static void forecasts() {
        VectorVersions x = someVersions();
        VectorVersions same = someVersions();
        x.nodesForSet(1, 0, -5);
        x.nodesForSet(1, 0, 1);
        x.nodesForAppend(1);
        x.nodesForAppend(2);
        x.garbageIfReleased(1);
        x.garbageIfReleased(2);
        Expect.same("everything", Stores.everything(same), Stores.everything(x));
        Expect.same("changes", 3, Stores.undoAll(x));
        VectorVersions y = Stores.counting(64);
        y.nodesForAppend(0);
        y.nodesForSet(0, 63, 0);
        Expect.same("next version", 1, y.set(0, 63, 0));
        Expect.same("next node", 21, y.leafOf(1, 63));
    }

    // ---- the execution of scripts ----

    private static void asMethods() {
        VectorVersions script = new VectorVersions();
        Expect.same("answer", 7, Texts.run(script,
            "set 0 0 minus 9;append 1 8;truncate 2 4;release 1;collect;append 3 5;set 4 4 5;"));
        VectorVersions calls = new VectorVersions();
        calls.set(0, 0, -9);
        calls.append(1, 8);
        calls.truncate(2, 4);
        calls.release(1);
        calls.collect();
        calls.append(3, 5);
        calls.set(4, 4, 5);
        Expect.same("as by methods", Stores.everything(calls), Stores.everything(script));
        VectorVersions x = new VectorVersions();
        Expect.same("in order", 2, Texts.run(x, "release 0;collect;append 0 1;"));
        Expect.same("collected after the release", 0, x.storedNodes());
        VectorVersions y = new VectorVersions();
        Expect.same("in the other order", 2, Texts.run(y, "collect;release 0;append 0 1;"));
        Expect.same("released after collecting", 4, y.storedNodes());
        for (String text : new String[] {"", "release 7;", "append 1 5;"}) {
            VectorVersions z = new VectorVersions();
            z.set(0, 0, 1);
            z.release(0);
            Texts.run(z, text);
            Expect.same("nothing is collected by '" + text + "'", 2, z.garbageNodes());
            Expect.same("nothing is released by '" + text + "'", z.versionCount() - 1, z.liveCount());
        }
    }

    private static void ends(String what, VectorVersions x, String statement) {
        int versions = x.versionCount();
        Expect.same(what + " as the first", 0, Texts.run(x, statement + "release 0;"));
        Expect.same(what + " as the second", 1, Texts.run(x, "collect;" + statement + "collect;"));
        Expect.same(what + " makes nothing", versions, x.versionCount());
        Expect.same(what + " ends all", false, x.isReleased(0));
        Expect.same(what + " is no text error", 0, x.errorCode());
    }

    private static void endOfExecution() {
        ends("set, no version", new VectorVersions(), "set 1 0 0;");
        ends("set, no element", new VectorVersions(), "set 0 10 0;");
        ends("append, no version", new VectorVersions(), "append 1 0;");
        ends("truncate, no version", new VectorVersions(), "truncate 1 0;");
        ends("truncate, too great", new VectorVersions(), "truncate 0 11;");
        ends("release, no version", new VectorVersions(), "release 1;");
        ends("append, 64 elements", Stores.counting(64), "append 0 1;");
        ends("set, forty versions", Stores.withFortyVersions(), "set 0 0 1;");
        ends("append, forty versions", Stores.withFortyVersions(), "append 0 1;");
        ends("truncate, forty versions", Stores.withFortyVersions(), "truncate 0 1;");
        for (String statement : new String[] {"set 1 0 0;", "append 1 0;", "truncate 1 0;", "release 1;"}) {
            VectorVersions x = new VectorVersions();
            x.truncate(0, 10);
            x.release(1);
            ends("released version", x, statement);
        }
        VectorVersions empty = Stores.counting(0);
        ends("set in an empty vector", empty, "set 0 0 0;");
        VectorVersions x = new VectorVersions();
        Expect.same("later statements are not tried", 1, Texts.run(x, "append 0 1;append 5 1;append 0 2;append 1 2;"));
        Expect.same("only the first", 2, x.versionCount());
    }

    private static void remain() {
        VectorVersions x = new VectorVersions();
        Expect.same("three", 3, Texts.run(x, "append 0 1;release 0;collect;append 0 2;append 1 3;"));
        Expect.same("version", "5 -2 7 7 0 12 3 1 9 4 1", Stores.elements(x, 1));
        Expect.same("release", true, x.isReleased(0));
        Expect.same("collect", 4, x.storedNodes());
        Expect.same("one change", 0, x.undo());
        Expect.same("undone together", false, x.isReleased(0));
        VectorVersions y = new VectorVersions();
        Texts.run(y, "append 0 1;".repeat(30));
        Expect.same("up to forty versions", 9, Texts.run(y, "append 0 2;".repeat(10)));
        Expect.same("forty", 40, y.versionCount());
        Expect.same("the last one", 2, y.get(39, 10));
    }
}
