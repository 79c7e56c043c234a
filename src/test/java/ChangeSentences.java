/** Promises 43 to 52: changes and their undoing, the output and the saved state. */
final class ChangeSentences {
    private static final String NO_VERSION = "Throws `IndexOutOfBoundsException` if there is no such version";
    private static final String RELEASED = "Throws `IllegalStateException` if the version is released";
    private static final String BAD_VALUE = "Throws `IllegalArgumentException` if value is outside its range";
    private static final String CHANGE = "This is a change.";
    private static final int[] BAD_VALUES = {-1000, 1000, -1001, Integer.MIN_VALUE, Integer.MAX_VALUE};

    private ChangeSentences() {
    }

    static void hold(Sentences s) {
        set(s);
        append(s);
        truncate(s);
        release(s);
        collect(s);
        undo(s);
        output(s);
        saved(s);
    }

    private static void set(Sentences s) {
        String promise = "Promise 43";
        s.hold(promise, "Makes a version in which one element is replaced.", ChangeSentences::replaced);
        s.hold(promise, CHANGE, () -> isChange(x -> x.set(0, 0, 1)));
        s.hold(promise, "`index`: index of the element, starting at 0", ChangeSentences::setIndexes);
        s.hold(promise, "`value`: the new value, -999 to 999", ChangeSentences::setValues);
        s.hold(promise, "Returns the number of the new version.", () -> numbers((x, version) -> x.set(version, 0, 1)));
        s.hold(promise, "Throws `IndexOutOfBoundsException` if there is no such version, or no such element in a version "
            + "that is not released", ChangeSentences::setWithoutElement);
        s.hold(promise, BAD_VALUE, ChangeSentences::setBadValue);
        s.hold(promise, "Throws `IllegalStateException` if the version is released, or there are 40 versions",
            ChangeSentences::setRefused);
    }

    private static void append(Sentences s) {
        String promise = "Promise 44";
        s.hold(promise, "Makes a version with one more element at the end.", ChangeSentences::oneMore);
        s.hold(promise, CHANGE, () -> isChange(x -> x.append(0, 1)));
        s.hold(promise, "`value`: the element, -999 to 999", ChangeSentences::appendedValues);
        s.hold(promise, "Returns the number of the new version.", () -> numbers((x, version) -> x.append(version, 1)));
        s.hold(promise, NO_VERSION, () -> Refusals.noVersion((x, version) -> x.append(version, 1)));
        s.hold(promise, BAD_VALUE, ChangeSentences::appendBadValue);
        s.hold(promise, "Throws `IllegalStateException` if the version is released, it has 64 elements, or there are 40 "
            + "versions", ChangeSentences::appendRefused);
    }

    private static void truncate(Sentences s) {
        String promise = "Promise 45";
        s.hold(promise, "Makes a version that consists of the first elements.", ChangeSentences::firstElements);
        s.hold(promise, CHANGE, () -> isChange(x -> x.truncate(0, 1)));
        s.hold(promise, "`size`: the new size, 0 or more", ChangeSentences::newSizes);
        s.hold(promise, "Returns the number of the new version.", () -> numbers((x, version) -> x.truncate(version, 1)));
        s.hold(promise, NO_VERSION, () -> Refusals.noVersion((x, version) -> x.truncate(version, 1)));
        s.hold(promise, "Throws `IllegalArgumentException` if size is negative, or greater than the size of a version that "
            + "is not released", ChangeSentences::badSizes);
        s.hold(promise, "Throws `IllegalStateException` if the version is released, or there are 40 versions",
            ChangeSentences::truncateRefused);
    }

    private static void release(Sentences s) {
        String promise = "Promise 46";
        s.hold(promise, "Releases a version.", ChangeSentences::released);
        s.hold(promise, "Its nodes stay stored until they are collected.", ChangeSentences::nodesStay);
        s.hold(promise, CHANGE, () -> isChange(x -> x.release(0)));
        s.hold(promise, "Returns the number of garbage nodes afterwards.", ChangeSentences::garbageAfterwards);
        s.hold(promise, NO_VERSION, () -> Refusals.noVersion(VectorVersions::release));
        s.hold(promise, RELEASED, () -> Refusals.released(VectorVersions::release));
    }

    private static void collect(Sentences s) {
        String promise = "Promise 47";
        s.hold(promise, "Collects the garbage: removes all garbage nodes.", ChangeSentences::removesGarbage);
        s.hold(promise, CHANGE, () -> isChange(VectorVersions::collect));
        s.hold(promise, "Returns the number of nodes removed.", ChangeSentences::removedNodes);
    }

    private static void undo(Sentences s) {
        String promise = "Promise 48";
        s.hold(promise, "Undoes the latest change that has not been undone.", ChangeSentences::latestFirst);
        s.hold(promise, "The input buffer, the reported text error, the output and the saved state stay as they are.",
            ChangeSentences::restStays);
        s.hold(promise, "Returns the number of changes that can still be undone.", ChangeSentences::changesLeft);
        s.hold(promise, "Throws `NoSuchElementException` if there is no change to undo", ChangeSentences::nothingToUndo);
    }

    private static void output(Sentences s) {
        s.hold("Promise 49", "Writes a version to the output and replaces the former output.", ChangeSentences::written);
        s.hold("Promise 49", "The output has an opening bracket (byte 91), the elements in decimal digits, negative ones "
            + "with a minus sign (byte 45), separated by commas (byte 44), with a vertical bar (byte 124) instead of the "
            + "comma between two leaves, and a closing bracket (byte 93).", ChangeSentences::outputForm);
        s.hold("Promise 49", "Returns the length of the output in bytes.", ChangeSentences::outputLength);
        s.hold("Promise 49", NO_VERSION, () -> Refusals.noVersion(VectorVersions::writeVersion));
        s.hold("Promise 49", RELEASED, () -> Refusals.released(VectorVersions::writeVersion));
        s.hold("Promise 50", "Returns a byte of the output.", ChangeSentences::outputBytes);
        s.hold("Promise 50", "`index`: index of the byte, starting at 0", ChangeSentences::byteIndexes);
        s.hold("Promise 50", "Returns the byte, or NONE if there is no byte with this index.", ChangeSentences::noByte);
    }

    private static void saved(Sentences s) {
        s.hold("Promise 51", "Saves the state and replaces the state saved before.", ChangeSentences::replacesSaved);
        s.hold("Promise 51", "The saved state does not contain the changes that can be undone.",
            ChangeSentences::savedWithoutChanges);
        s.hold("Promise 51", "Returns the number of versions.", ChangeSentences::savedVersions);
        s.hold("Promise 52", "Restores the saved state, which stays saved.", ChangeSentences::staysSaved);
        s.hold("Promise 52", "No change can be undone afterwards.", ChangeSentences::noUndoAfterwards);
        s.hold("Promise 52", "Returns the number of versions afterwards.", ChangeSentences::restoredVersions);
        s.hold("Promise 52", "Throws `NoSuchElementException` if no state is saved", ChangeSentences::nothingSaved);
    }

    // ---- what several changes have in common ----

    private interface Change {
        Object on(VectorVersions x);
    }

    private static void isChange(Change change) {
        VectorVersions x = new VectorVersions();
        String before = Stores.everything(x);
        change.on(x);
        String after = Stores.everything(x);
        Expect.same("it can be undone", 0, Expect.answer(x::undo));
        Expect.same("all of it is undone", before, Stores.everything(x));
        Expect.nothingThere("it is one change", x::undo);
        change.on(x);
        Expect.same("it goes just so again", after, Stores.everything(x));
        for (int i = 0; i < 8; i++) {
            Expect.same("further change " + i, 0, Texts.run(x, ""));
        }
        Expect.same("it is dropped as the ninth", 8, Stores.undoAll(x));
        Expect.same("it stays", after, Stores.everything(x));
    }

    private static void numbers(Refusals.VersionCall call) {
        VectorVersions x = new VectorVersions();
        for (int number = 1; number < 40; number++) {
            Expect.same("from version 0", number, call.of(x, 0));
        }
        VectorVersions y = new VectorVersions();
        for (int number = 1; number < 40; number++) {
            Expect.same("from the latest", number, call.of(y, number - 1));
        }
        y.undo();
        Expect.same("again after an undone one", 39, call.of(y, 0));
        VectorVersions z = new VectorVersions();
        call.of(z, 0);
        z.release(1);
        z.collect();
        Expect.same("numbers of released ones are not free", 2, call.of(z, 0));
    }

    // ---- promise 43 ----

    private static void replaced() {
        VectorVersions x = new VectorVersions();
        for (int index = 0; index < 10; index++) {
            int version = x.set(0, index, 500 + index);
            for (int i = 0; i < 10; i++) {
                int due = i == index ? 500 + index : x.get(0, i);
                Expect.same("index " + i + " of " + index, due, x.get(version, i));
            }
        }
        Expect.same("version 0", "5 -2 7 7 0 12 3 1 9 4", Stores.elements(x, 0));
    }

    private static void setIndexes() {
        for (int size : Stores.EDGE_SIZES) {
            VectorVersions x = Stores.counting(size);
            Expect.noPlace("index -1 of " + size, () -> x.set(0, -1, 0));
            Expect.noPlace("index " + size, () -> x.set(0, size, 0));
            if (size > 0) {
                x.set(0, 0, 999);
                x.set(0, size - 1, -999);
                Expect.same("index 0 of " + size, 999, x.get(1, 0));
                Expect.same("last index of " + size, -999, x.get(2, size - 1));
                Expect.same("size", size, x.size(2));
            }
        }
    }

    private static void setValues() {
        VectorVersions x = new VectorVersions();
        for (int value : new int[] {-999, -998, -1, 0, 1, 998, 999}) {
            int version = x.set(0, 9, value);
            Expect.same("value " + value, value, x.get(version, 9));
        }
        Expect.badArgument("-1000", () -> x.set(0, 9, -1000));
        Expect.badArgument("1000", () -> x.set(0, 9, 1000));
    }

    private static void setWithoutElement() {
        Refusals.noVersion((x, version) -> x.set(version, 0, 0));
        for (int size : Stores.EDGE_SIZES) {
            for (VectorVersions x : Stores.ofSize(size)) {
                int version = Stores.latest(x);
                for (int index : new int[] {-1, size, 64, Integer.MIN_VALUE, Integer.MAX_VALUE}) {
                    Expect.noPlace("index " + index + " of " + size, () -> x.set(version, index, 0));
                    Expect.noPlace("and a bad value", () -> x.set(version, index, 1000));
                }
                Expect.same("no version is made", version + 1, x.versionCount());
            }
        }
    }

    private static void setBadValue() {
        VectorVersions x = new VectorVersions();
        x.truncate(0, 10);
        x.release(1);
        for (int value : BAD_VALUES) {
            Expect.badArgument("value " + value, () -> x.set(0, 0, value));
            Expect.badArgument("released, value " + value, () -> x.set(1, 0, value));
            Expect.badArgument("released, no index, value " + value, () -> x.set(1, 10, value));
        }
    }

    private static void setRefused() {
        Refusals.released((x, version) -> x.set(version, 0, 0));
        VectorVersions x = new VectorVersions();
        x.release(0);
        for (int index : new int[] {-1, 10, 64, Integer.MIN_VALUE, Integer.MAX_VALUE}) {
            Expect.badState("released, index " + index, () -> x.set(0, index, 0));
        }
        VectorVersions full = Stores.withFortyVersions();
        Expect.badState("forty versions", () -> full.set(39, 0, 0));
        Expect.badState("forty versions, same value", () -> full.set(0, 0, 5));
        full.undo();
        Expect.same("39 versions", 39, full.set(0, 0, 0));
        Expect.badState("forty versions again", () -> full.set(0, 0, 0));
    }

    // ---- promise 44 ----

    private static void oneMore() {
        VectorVersions x = Stores.counting(0);
        for (int size = 0; size < 39; size++) {
            x.append(size, size);
            Expect.same("size", size + 1, x.size(size + 1));
            Expect.same("at the end", size, x.get(size + 1, size));
            Expect.same("the first stays", 0, x.get(size + 1, 0));
            Expect.same("those before stay", size * (size + 1) / 2, x.sum(size + 1));
        }
        VectorVersions y = Stores.counting(40);
        for (int size = 40; size < 64; size++) {
            y.append(size - 40, size);
            Expect.same("size", size + 1, y.size(size - 39));
            Expect.same("at the end", size, y.get(size - 39, size));
            Expect.same("those before stay", size * (size + 1) / 2, y.sum(size - 39));
        }
        y.append(0, -1);
        Expect.same("beside another branch", -1, y.get(25, 40));
        Expect.same("the other branch stays", 40, y.get(24, 40));
    }

    private static void appendedValues() {
        VectorVersions x = new VectorVersions();
        for (int value : new int[] {-999, -998, -1, 0, 1, 998, 999}) {
            int version = x.append(0, value);
            Expect.same("value " + value, value, x.get(version, 10));
        }
        Expect.badArgument("-1000", () -> x.append(0, -1000));
        Expect.badArgument("1000", () -> x.append(0, 1000));
    }

    private static void appendBadValue() {
        VectorVersions x = Stores.counting(64);
        x.truncate(0, 10);
        x.truncate(0, 10);
        x.release(2);
        for (int value : BAD_VALUES) {
            Expect.badArgument("value " + value, () -> x.append(1, value));
            Expect.badArgument("64 elements, value " + value, () -> x.append(0, value));
            Expect.badArgument("released, value " + value, () -> x.append(2, value));
        }
    }

    private static void appendRefused() {
        Refusals.released((x, version) -> x.append(version, 0));
        for (VectorVersions x : Stores.ofSize(64)) {
            Expect.badState("64 elements", () -> x.append(Stores.latest(x), 0));
        }
        for (VectorVersions x : Stores.ofSize(63)) {
            Expect.noException("63 elements", () -> x.append(Stores.latest(x), 0));
        }
        VectorVersions full = Stores.withFortyVersions();
        Expect.badState("forty versions", () -> full.append(39, 0));
        full.undo();
        Expect.same("39 versions", 39, full.append(0, 0));
        Expect.badState("forty versions again", () -> full.append(0, 0));
    }

    // ---- promise 45 ----

    private static void firstElements() {
        for (int size = 0; size <= 64; size++) {
            VectorVersions x = Stores.counting(64);
            x.truncate(0, size);
            Expect.same("size", size, x.size(1));
            for (int index = 0; index < size; index++) {
                Expect.same("element " + index + " of " + size, index, x.get(1, index));
            }
            Expect.same("version 0", 2016, x.sum(0));
        }
        VectorVersions x = Stores.counting(64);
        x.truncate(0, 30);
        x.append(1, -1);
        Expect.same("appended again", -1, x.get(2, 30));
        Expect.same("version 0 keeps its own", 30, x.get(0, 30));
    }

    private static void newSizes() {
        VectorVersions x = new VectorVersions();
        for (int size : new int[] {10, 9, 1, 0}) {
            Expect.same("size " + size, size, x.size(x.truncate(0, size)));
        }
        Expect.badArgument("-1", () -> x.truncate(0, -1));
        Expect.badArgument("11", () -> x.truncate(0, 11));
        Expect.same("0 of none", 0, x.size(x.truncate(4, 0)));
        Expect.badArgument("1 of none", () -> x.truncate(4, 1));
    }

    private static void badSizes() {
        for (int size : Stores.EDGE_SIZES) {
            for (VectorVersions x : Stores.ofSize(size)) {
                int version = Stores.latest(x);
                for (int bad : new int[] {-1, size + 1, 65, Integer.MIN_VALUE, Integer.MAX_VALUE}) {
                    Expect.badArgument("size " + bad + " of " + size, () -> x.truncate(version, bad));
                }
                Expect.same("just " + size, version + 1, x.truncate(version, size));
                x.release(version);
                Expect.badArgument("released, -1", () -> x.truncate(version, -1));
                Expect.badArgument("released, smallest", () -> x.truncate(version, Integer.MIN_VALUE));
            }
        }
        VectorVersions full = Stores.withFortyVersions();
        Expect.badArgument("forty versions", () -> full.truncate(0, 11));
    }

    private static void truncateRefused() {
        Refusals.released((x, version) -> x.truncate(version, 0));
        VectorVersions x = new VectorVersions();
        x.release(0);
        for (int size : new int[] {0, 10, 11, 65, Integer.MAX_VALUE}) {
            Expect.badState("released, size " + size, () -> x.truncate(0, size));
        }
        VectorVersions full = Stores.withFortyVersions();
        Expect.badState("forty versions", () -> full.truncate(39, 0));
        Expect.badState("forty versions, same size", () -> full.truncate(0, 10));
        full.undo();
        Expect.same("39 versions", 39, full.truncate(0, 0));
        Expect.badState("forty versions again", () -> full.truncate(0, 0));
    }

    // ---- promises 46 and 47 ----

    private static void released() {
        VectorVersions x = new VectorVersions();
        x.append(0, 1);
        x.append(1, 1);
        x.release(1);
        Expect.same("released", true, x.isReleased(1));
        Expect.same("not its parent", false, x.isReleased(0));
        Expect.same("not its child", false, x.isReleased(2));
        Expect.same("live ones", 2, x.liveCount());
        Expect.same("all versions", 3, x.versionCount());
        Expect.badState("twice", () -> x.release(1));
        x.release(0);
        x.release(2);
        Expect.same("all", 0, x.liveCount());
    }

    private static void nodesStay() {
        VectorVersions x = new VectorVersions();
        x.release(0);
        Expect.same("stored", 4, x.storedNodes());
        Expect.same("leaf", 4, x.entryCount(0));
        Expect.same("root", 2, x.childOf(3, 2));
        x.collect();
        Expect.same("collected", 0, x.storedNodes());
        Expect.noPlace("leaf", () -> x.entryCount(0));
        Expect.noPlace("root", () -> x.childOf(3, 2));
    }

    private static void garbageAfterwards() {
        VectorVersions x = new VectorVersions();
        x.set(0, 0, 1);
        x.truncate(0, 0);
        x.truncate(0, 10);
        Expect.same("none, the root is shared", 0, x.release(0));
        Expect.same("none, an empty vector", 0, x.release(2));
        Expect.same("two", 2, x.release(3));
        Expect.same("with those before", 6, x.release(1));
        VectorVersions y = new VectorVersions();
        y.append(0, 1);
        y.release(0);
        y.collect();
        Expect.same("without the collected ones", 4, y.release(1));
    }

    private static void removesGarbage() {
        VectorVersions x = new VectorVersions();
        x.set(0, 0, 1);
        x.release(0);
        x.collect();
        Expect.same("no garbage", 0, x.garbageNodes());
        Expect.same("the rest is stored", 4, x.storedNodes());
        Expect.noPlace("leaf", () -> x.isLeaf(0));
        Expect.noPlace("root", () -> x.isLeaf(3));
        Expect.same("shared leaf", true, x.isLeaf(1));
        Expect.same("elements stay", "1 -2 7 7 0 12 3 1 9 4", Stores.elements(x, 1));
    }

    private static void removedNodes() {
        VectorVersions x = new VectorVersions();
        Expect.same("none", 0, x.collect());
        x.set(0, 0, 1);
        x.release(0);
        Expect.same("two", 2, x.collect());
        Expect.same("none again", 0, x.collect());
        x.release(1);
        Expect.same("all the rest", 4, x.collect());
        Expect.same("nothing is stored", 0, x.collect());
        x.undo();
        x.undo();
        Expect.same("the same again", 4, x.collect());
        VectorVersions empty = Stores.counting(0);
        empty.release(0);
        Expect.same("empty vector", 0, empty.collect());
    }

    // ---- promise 48 ----

    private static void latestFirst() {
        VectorVersions x = new VectorVersions();
        String[] states = new String[6];
        states[0] = Stores.everything(x);
        x.set(0, 0, 1);
        states[1] = Stores.everything(x);
        x.release(0);
        states[2] = Stores.everything(x);
        x.collect();
        states[3] = Stores.everything(x);
        x.append(1, 1);
        for (int i = 3; i >= 0; i--) {
            x.undo();
            Expect.same("state " + i, states[i], Stores.everything(x));
        }
        VectorVersions y = new VectorVersions();
        y.append(0, 1);
        y.undo();
        y.truncate(0, 5);
        y.append(1, 2);
        y.undo();
        Expect.same("not the one that is undone already", 5, y.size(1));
        y.undo();
        Expect.same("all are undone", states[0], Stores.everything(y));
    }

    private static void restStays() {
        VectorVersions x = new VectorVersions();
        x.append(0, 8);
        x.saveState();
        x.append(1, 9);
        x.writeVersion(2);
        Texts.run(x, "collect;release 40;");
        Texts.feed(x, "append 0 3;");
        x.undo();
        x.undo();
        Expect.same("error code", 2, x.errorCode());
        Expect.same("error offset", 16, x.errorOffset());
        Expect.same("output", "[5,-2,7,7|0,12,3,1|9,4,8,9]", Texts.output(x));
        Expect.same("length of the input", false, x.truncateInput(12));
        Expect.same("input", 1, x.runScript());
        Expect.same("saved state", 2, x.restoreState());
        Expect.same("saved elements", 8, x.get(1, 10));
    }

    private static void changesLeft() {
        VectorVersions x = new VectorVersions();
        for (int i = 0; i < 3; i++) {
            x.collect();
        }
        Expect.same("two", 2, x.undo());
        Expect.same("one", 1, x.undo());
        Expect.same("none", 0, x.undo());
        for (int i = 0; i < 30; i++) {
            x.collect();
        }
        for (int left = 7; left >= 0; left--) {
            Expect.same("of eight", left, x.undo());
        }
    }

    private static void nothingToUndo() {
        VectorVersions x = new VectorVersions();
        Expect.nothingThere("new object", x::undo);
        x.collect();
        x.undo();
        Expect.nothingThere("all undone", x::undo);
        Expect.nothingThere("twice", x::undo);
        x.collect();
        Texts.load(x, "list 1;");
        Expect.nothingThere("new setup", x::undo);
        x.saveState();
        x.collect();
        x.restoreState();
        Expect.nothingThere("restored", x::undo);
        for (int i = 0; i < 9; i++) {
            x.collect();
        }
        Stores.undoAll(x);
        Expect.nothingThere("eight of nine undone", x::undo);
        x.collect();
        Expect.same("a new change", 0, x.undo());
    }

    // ---- promises 49 and 50 ----

    private static void written() {
        VectorVersions x = new VectorVersions();
        x.truncate(0, 5);
        Expect.same("version 0", "[5,-2,7,7|0,12,3,1|9,4]", Texts.written(x, 0));
        Expect.same("replaced by a shorter one", "[5,-2,7,7|0]", Texts.written(x, 1));
        x.undo();
        Expect.same("stays when the version is gone", "[5,-2,7,7|0]", Texts.output(x));
        Expect.same("replaced again", "[5,-2,7,7|0,12,3,1|9,4]", Texts.written(x, 0));
        Expect.noPlace("refused", () -> x.writeVersion(1));
        Expect.same("a refused call does not replace", "[5,-2,7,7|0,12,3,1|9,4]", Texts.output(x));
    }

    private static void outputForm() {
        Expect.same("empty", "[]", Texts.written(Texts.loaded("list;"), 0));
        Expect.same("one element", "[0]", Texts.written(Texts.loaded("list 0;"), 0));
        Expect.same("four elements", "[1,2,3,4]", Texts.written(Texts.loaded("list 1 2 3 4;"), 0));
        Expect.same("five elements", "[1,2,3,4|5]", Texts.written(Texts.loaded("list 1 2 3 4 5;"), 0));
        Expect.same("digits", "[9,10,99,100|101,109,110,999]",
            Texts.written(Texts.loaded("list 9 10 99 100 101 109 110 999;"), 0));
        Expect.same("negative ones", "[-1,-9,-10,-99|-100,-101,-999,0]", Texts.written(Texts.loaded(
            "list minus 1 minus 9 minus 10 minus 99 minus 100 minus 101 minus 999 minus 0;"), 0));
        StringBuilder due = new StringBuilder("[0");
        for (int i = 1; i < 64; i++) {
            due.append(i % 4 == 0 ? '|' : ',').append(i);
        }
        VectorVersions x = Stores.counting(64);
        x.writeVersion(0);
        Expect.same("64 elements", due + "]", Texts.output(x));
    }

    private static void outputLength() {
        VectorVersions x = new VectorVersions();
        x.truncate(0, 0);
        x.truncate(0, 1);
        x.truncate(0, 2);
        Expect.same("empty", 2, x.writeVersion(1));
        Expect.same("one", 3, x.writeVersion(2));
        Expect.same("with a minus", 6, x.writeVersion(3));
        Expect.same("ten", 23, x.writeVersion(0));
        Expect.same("longest", 321, Texts.loaded("list " + "minus999".repeat(64) + ";").writeVersion(0));
    }

    private static void outputBytes() {
        VectorVersions x = new VectorVersions();
        x.writeVersion(0);
        int[] due = {91, 53, 44, 45, 50, 44, 55, 44, 55, 124, 48, 44, 49, 50, 44, 51, 44, 49, 124, 57, 44, 52, 93};
        for (int index = 0; index < due.length; index++) {
            Expect.same("byte " + index, due[index], x.outputByte(index));
        }
    }

    private static void byteIndexes() {
        VectorVersions x = Texts.loaded("list " + "minus999".repeat(64) + ";");
        x.writeVersion(0);
        Expect.same("index 0", 91, x.outputByte(0));
        Expect.same("index 1", 45, x.outputByte(1));
        Expect.same("index 319", 57, x.outputByte(319));
        Expect.same("index 320", 93, x.outputByte(320));
        Expect.same("index 321", -1, x.outputByte(321));
        Expect.same("index -1", -1, x.outputByte(-1));
    }

    private static void noByte() {
        VectorVersions x = new VectorVersions();
        int[] none = {-1, -2, 23, 24, 321, 600, Integer.MIN_VALUE, Integer.MAX_VALUE};
        Expect.same("before any output", -1, x.outputByte(0));
        for (int index : none) {
            Expect.same("before any output, index " + index, -1, x.outputByte(index));
        }
        x.writeVersion(0);
        for (int index : none) {
            Expect.same("index " + index, -1, x.outputByte(index));
        }
        Expect.same("last byte", 93, x.outputByte(22));
        x.truncate(0, 0);
        x.writeVersion(1);
        Expect.same("last byte of a shorter output", 93, x.outputByte(1));
        Expect.same("behind a shorter output", -1, x.outputByte(2));
        Expect.same("last byte of the former output", -1, x.outputByte(22));
    }

    // ---- promises 51 and 52 ----

    private static void replacesSaved() {
        VectorVersions x = new VectorVersions();
        x.saveState();
        x.append(0, 1);
        x.saveState();
        x.append(0, 2);
        x.restoreState();
        Expect.same("the later one", 2, x.versionCount());
        Expect.same("its elements", 1, x.get(1, 10));
        x.release(0);
        x.collect();
        x.saveState();
        x.append(1, 1);
        String saved = "released and collected";
        x.restoreState();
        Expect.same(saved, true, x.isReleased(0));
        Expect.same(saved, 4, x.storedNodes());
        Expect.same(saved, 6, x.createdNodes());
        Expect.same(saved, 2, x.nodesCreatedFor(1));
        Expect.noPlace(saved, () -> x.isLeaf(3));
    }

    private static void savedWithoutChanges() {
        VectorVersions x = new VectorVersions();
        x.append(0, 1);
        x.append(0, 2);
        x.saveState();
        Expect.same("saving keeps the changes", 1, x.undo());
        x.restoreState();
        Expect.nothingThere("restoring does not bring them back", x::undo);
        Expect.same("their versions are there", 3, x.versionCount());
        x.append(0, 3);
        x.saveState();
        Expect.same("saving again keeps the one since then", 0, x.undo());
    }

    private static void savedVersions() {
        VectorVersions x = new VectorVersions();
        Expect.same("one", 1, x.saveState());
        x.append(0, 1);
        x.release(0);
        x.release(1);
        Expect.same("released ones count", 2, x.saveState());
        x.undo();
        x.undo();
        x.undo();
        Expect.same("undone ones do not", 1, x.saveState());
        Expect.same("forty", 40, Stores.withFortyVersions().saveState());
    }

    private static void staysSaved() {
        VectorVersions x = new VectorVersions();
        x.set(0, 0, 1);
        x.truncate(1, 3);
        x.release(0);
        x.saveState();
        String saved = Stores.everything(x);
        x.collect();
        x.append(1, 5);
        x.restoreState();
        Expect.same("once", saved, Stores.everything(x));
        x.release(1);
        x.collect();
        x.restoreState();
        Expect.same("again", saved, Stores.everything(x));
        VectorVersions y = new VectorVersions();
        y.set(0, 0, 1);
        y.truncate(1, 3);
        y.saveState();
        String before = Stores.everything(y);
        y.undo();
        y.undo();
        y.append(0, 5);
        y.append(1, 6);
        y.append(2, 7);
        y.restoreState();
        Expect.same("other versions had the numbers", before, Stores.everything(y));
        Expect.same("elements", "1 -2 7", Stores.elements(y, 2));
        otherKindsOfNodes();
    }

    private static void otherKindsOfNodes() {
        VectorVersions x = new VectorVersions();
        x.append(0, 1);
        x.set(1, 0, 9);
        x.truncate(0, 3);
        x.saveState();
        String saved = Stores.everything(x);
        x.undo();
        x.undo();
        x.undo();
        x.truncate(0, 3);
        x.truncate(1, 2);
        x.append(2, -1);
        x.set(3, 0, -2);
        x.append(4, -3);
        x.restoreState();
        Expect.same("other kinds of nodes had the numbers", saved, Stores.everything(x));
        Expect.same("leaf", true, x.isLeaf(4));
        Expect.same("inner node", false, x.isLeaf(5));
        Expect.same("parents", "0 1 0", x.parentOf(1) + " " + x.parentOf(2) + " " + x.parentOf(3));
        Expect.same("elements", "9 -2 7 7 0 12 3 1 9 4 1", Stores.elements(x, 2));
        Expect.same("invariants", true, x.isConsistent());
    }

    private static void noUndoAfterwards() {
        VectorVersions x = new VectorVersions();
        x.append(0, 1);
        x.saveState();
        x.append(0, 2);
        x.restoreState();
        Expect.nothingThere("neither from before nor from after saving", x::undo);
        Expect.same("versions", 2, x.versionCount());
        x.append(0, 3);
        Expect.same("a new change", 0, x.undo());
        Expect.same("versions", 2, x.versionCount());
        for (int i = 0; i < 8; i++) {
            x.append(0, i);
        }
        x.restoreState();
        Expect.nothingThere("eight changes", x::undo);
    }

    private static void restoredVersions() {
        VectorVersions x = new VectorVersions();
        x.saveState();
        x.append(0, 1);
        Expect.same("fewer", 1, x.restoreState());
        x.append(0, 1);
        x.append(0, 1);
        x.saveState();
        x.undo();
        Expect.same("more", 3, x.restoreState());
        x.release(0);
        x.release(1);
        x.release(2);
        x.saveState();
        Expect.same("all released", 3, x.restoreState());
        VectorVersions full = Stores.withFortyVersions();
        full.saveState();
        full.undo();
        Expect.same("forty", 40, full.restoreState());
        Expect.badState("no more than forty", () -> full.append(0, 1));
    }

    private static void nothingSaved() {
        VectorVersions x = new VectorVersions();
        Expect.nothingThere("new object", x::restoreState);
        x.append(0, 1);
        Expect.nothingThere("a change saves nothing", x::restoreState);
        Expect.same("versions", 2, x.versionCount());
        x.saveState();
        Texts.load(x, "list 1");
        Expect.same("an invalid setup keeps it", 2, x.restoreState());
        Texts.load(x, "list 1;");
        Expect.nothingThere("a valid setup drops it", x::restoreState);
        x.saveState();
        Expect.same("saved again", 1, x.restoreState());
    }
}
