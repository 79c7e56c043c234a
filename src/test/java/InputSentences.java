/** Promises 1 to 7: a new object, the input buffer, setups, scripts and their errors. */
final class InputSentences {
    private static final String FIRST = "5 -2 7 7 0 12 3 1 9 4";

    private InputSentences() {
    }

    static void hold(Sentences s) {
        s.hold("Promise 1", "Creates the store of the setup \"list 5 minus 2 7 7 0;list 12 3 1 9 4;\" with an empty input "
            + "buffer.", InputSentences::newObject);
        appendInput(s);
        truncateInput(s);
        loadSetup(s);
        runScript(s);
        s.hold("Promise 6", "Returns the error code of the latest call of loadSetup or runScript.",
            InputSentences::latestCode);
        s.hold("Promise 6", "Returns the error code, or NO_ERROR if that text was valid or there was no such call.",
            InputSentences::noError);
        s.hold("Promise 7", "Returns the offset of the error of the latest call of loadSetup or runScript.",
            InputSentences::latestOffset);
        s.hold("Promise 7", "Returns the offset in bytes, or NONE if errorCode() is NO_ERROR.", InputSentences::noOffset);
    }

    private static void appendInput(Sentences s) {
        String promise = "Promise 2";
        s.hold(promise, "Appends 20 bytes to the input buffer: the four bytes of each parameter, most significant byte "
            + "first.", InputSentences::twentyBytes);
        s.hold(promise, "`a`: first four bytes", () -> fourBytes(0));
        s.hold(promise, "`b`: next four bytes", () -> fourBytes(1));
        s.hold(promise, "`c`: next four bytes", () -> fourBytes(2));
        s.hold(promise, "`d`: next four bytes", () -> fourBytes(3));
        s.hold(promise, "`e`: last four bytes", () -> fourBytes(4));
        s.hold(promise, "Returns the new length of the buffer, or NONE without a change if the length would exceed 600.",
            InputSentences::fullBuffer);
    }

    private static void truncateInput(Sentences s) {
        String promise = "Promise 3";
        s.hold(promise, "Truncates the input buffer.", InputSentences::truncates);
        s.hold(promise, "`length`: the new length", InputSentences::newLength);
        s.hold(promise, "Returns true, or false without a change if length is negative or greater than the current length.",
            InputSentences::refusedLengths);
    }

    private static void loadSetup(Sentences s) {
        String promise = "Promise 4";
        s.hold(promise, "Parses the input buffer as a setup and empties the buffer in any case.",
            () -> emptiesBuffer("list 1;", "list 1", "collect;", ""));
        s.hold(promise, "A valid setup replaces everything except the output: there is only version 0, all counters are as "
            + "after its creation, no change can be undone, and no state is saved.", InputSentences::replaces);
        s.hold(promise, "An invalid setup leaves everything as it was.", InputSentences::invalidSetup);
        s.hold(promise, "Returns the size of version 0, or NONE if the setup is invalid.", InputSentences::setupAnswers);
    }

    private static void runScript(Sentences s) {
        String promise = "Promise 5";
        s.hold(promise, "Parses the input buffer as a script and empties the buffer in any case.",
            () -> emptiesBuffer("collect;", "collect", "list 1;", "release 0;release 0;"));
        s.hold(promise, "A valid script is executed, and its execution is one change, even if no statement is executed.",
            InputSentences::oneChange);
        s.hold(promise, "An invalid script is not executed.", InputSentences::invalidScript);
        s.hold(promise, "Returns the number of statements executed, or NONE if the script is invalid.",
            InputSentences::scriptAnswers);
    }

    // ---- promise 1 ----

    private static void newObject() {
        VectorVersions x = new VectorVersions();
        Expect.same("elements", FIRST, Stores.elements(x, 0));
        VectorVersions loaded = Texts.loaded("list 5 minus 2 7 7 0;list 12 3 1 9 4;");
        Expect.same("as after the setup", Stores.everything(loaded), Stores.everything(x));
        Expect.same("buffer", false, x.truncateInput(1));
        Expect.same("first block", 20, x.appendInput(0, 0, 0, 0, 0));
        Expect.same("error", 0, x.errorCode());
        Expect.same("offset", -1, x.errorOffset());
        Expect.same("output", -1, x.outputByte(0));
        Expect.nothingThere("undo", x::undo);
        Expect.nothingThere("restore", x::restoreState);
        VectorVersions other = new VectorVersions();
        x.set(0, 0, 9);
        Texts.written(x, 1);
        Expect.same("objects do not share versions", 1, other.versionCount());
        Expect.same("objects do not share the buffer", false, other.truncateInput(1));
        Expect.same("objects do not share the output", -1, other.outputByte(0));
    }

    // ---- promise 2 ----

    private static void twentyBytes() {
        VectorVersions x = new VectorVersions();
        Expect.same("length", 20, x.appendInput(0x6c697374, 0x31203233, 0x20343536, 0x206d696e, 0x7573373b));
        Expect.same("twenty bytes stand", true, x.truncateInput(20));
        Expect.same("size", 4, x.loadSetup());
        Expect.same("bytes in their order", "1 23 456 -7", Stores.elements(x, 0));
        x.appendInput(0x6c697374, 0x31203120, 0x31203120, 0x31203120, 0x31203120);
        Expect.same("behind those before", 40, x.appendInput(0x32203220, 0x32203220, 0x32203220, 0x32203220, 0x323b2020));
        Expect.same("both blocks", 17, x.loadSetup());
        Expect.same("sum of both blocks", 8 + 18, x.sum(0));
    }

    /** Each byte of the parameter at this position, put in as 255, is the first that starts no token. */
    private static void fourBytes(int position) {
        for (int i = 0; i < 4; i++) {
            int[] words = {0x20202020, 0x20202020, 0x20202020, 0x20202020, 0x20202020};
            words[position] |= 0xff << (24 - 8 * i);
            VectorVersions x = new VectorVersions();
            x.appendInput(words[0], words[1], words[2], words[3], words[4]);
            Expect.same("byte 255", -1, x.loadSetup());
            Expect.same("place of byte " + i, 4 * position + i, x.errorOffset());
        }
        VectorVersions x = new VectorVersions();
        int[] words = {0x20202020, 0x20202020, 0x20202020, 0x20202020, 0x20202020};
        words[position] = 0x80000000;
        x.appendInput(words[0], words[1], words[2], words[3], words[4]);
        x.runScript();
        Expect.same("smallest int", 4 * position, x.errorOffset());
    }

    private static void fullBuffer() {
        VectorVersions x = new VectorVersions();
        for (int i = 1; i <= 30; i++) {
            Expect.same("block " + i, 20 * i, x.appendInput(0x20202020, 0x20202020, 0x20202020, 0x20202020, 0x20202020));
        }
        Expect.same("620", -1, x.appendInput(-1, -1, -1, -1, -1));
        Expect.same("620 again", -1, x.appendInput(-1, -1, -1, -1, -1));
        Expect.same("length stays 600", false, x.truncateInput(601));
        Expect.same("bytes stay", 0, x.runScript());
        Expect.same("from the start again", 20, x.appendInput(-1, -1, -1, -1, -1));
        for (int length : new int[] {581, 590, 599}) {
            VectorVersions y = bufferOf(length);
            Expect.same("exceeds from " + length, -1, y.appendInput(-1, -1, -1, -1, -1));
            Expect.same("length stays " + length, false, y.truncateInput(length + 1));
            Expect.same("bytes stay " + length, 0, y.runScript());
        }
        VectorVersions y = bufferOf(580);
        Expect.same("just 600", 600, y.appendInput(0x20202020, 0x20202020, 0x20202020, 0x20202020, 0x2020203f));
        y.runScript();
        Expect.same("last byte", 599, y.errorOffset());
    }

    /** A store with an input buffer of spaces. */
    private static VectorVersions bufferOf(int length) {
        VectorVersions x = new VectorVersions();
        Texts.feed(x, " ".repeat(length));
        return x;
    }

    // ---- promise 3 ----

    private static void truncates() {
        VectorVersions x = new VectorVersions();
        Texts.feed(x, "list 12345678");
        Expect.same("shorter", true, x.truncateInput(8));
        Expect.same("next block", 28, x.appendInput(0x3b202020, 0x20202020, 0x20202020, 0x20202020, 0x20202020));
        Expect.same("rest is gone", 1, x.loadSetup());
        Expect.same("start stays", "123", Stores.elements(x, 0));
    }

    private static void newLength() {
        VectorVersions x = bufferOf(20);
        for (int length : new int[] {20, 19, 1, 0}) {
            Expect.same("to " + length, true, x.truncateInput(length));
            Expect.same("no more than " + length, false, x.truncateInput(length + 1));
        }
        VectorVersions y = bufferOf(600);
        Expect.same("to 600", true, y.truncateInput(600));
        Expect.same("to 0", true, y.truncateInput(0));
        Expect.same("empty", 20, y.appendInput(0, 0, 0, 0, 0));
    }

    private static void refusedLengths() {
        VectorVersions x = new VectorVersions();
        Expect.same("0 of an empty buffer", true, x.truncateInput(0));
        Expect.same("1 of an empty buffer", false, x.truncateInput(1));
        Expect.same("-1 of an empty buffer", false, x.truncateInput(-1));
        Texts.feed(x, "list 1 2 3;");
        for (int length : new int[] {-1, -11, 12, 600, Integer.MIN_VALUE, Integer.MAX_VALUE}) {
            Expect.same("to " + length, false, x.truncateInput(length));
        }
        Expect.same("without a change", 3, x.loadSetup());
        Expect.same("without a change", "1 2 3", Stores.elements(x, 0));
    }

    // ---- promises 4 and 5 ----

    private static void emptiesBuffer(String... texts) {
        for (String text : texts) {
            VectorVersions x = new VectorVersions();
            Texts.load(x, text);
            Expect.same("loadSetup of '" + text + "'", false, x.truncateInput(1));
            Expect.same("loadSetup of '" + text + "'", 20, x.appendInput(0, 0, 0, 0, 0));
            VectorVersions y = new VectorVersions();
            Texts.run(y, text);
            Expect.same("runScript of '" + text + "'", false, y.truncateInput(1));
            Expect.same("runScript of '" + text + "'", 0, y.runScript());
        }
        VectorVersions x = new VectorVersions();
        Texts.load(x, "?".repeat(600));
        Expect.same("full buffer", false, x.truncateInput(1));
        afterUnfinishedTexts();
    }

    private static void afterUnfinishedTexts() {
        for (String text : new String[] {"list", "list 8 9", "list minus", "set", "set 0 0 minus", "append 0 1;append 1"}) {
            VectorVersions x = new VectorVersions();
            x.truncate(0, 2);
            Texts.load(x, text);
            Texts.run(x, text);
            Expect.same("script after '" + text + "'", 2, Texts.run(x, "append 1 4;append 2 3;"));
            Expect.same("its elements", "5 -2 4 3", Stores.elements(x, 3));
            Texts.run(x, text);
            Texts.load(x, text);
            Expect.same("setup after '" + text + "'", 2, Texts.load(x, "list 6 7;"));
            Expect.same("its elements", "6 7", Stores.elements(x, 0));
        }
    }

    private static VectorVersions changed() {
        VectorVersions x = new VectorVersions();
        x.set(0, 0, 1);
        x.append(1, 8);
        x.release(0);
        x.saveState();
        x.collect();
        x.writeVersion(2);
        Texts.run(x, "list;");
        return x;
    }

    private static void replaces() {
        VectorVersions x = changed();
        String output = Texts.output(x);
        Expect.same("answer", 6, Texts.load(x, "list 8 7 6 5 4 3;"));
        Expect.same("output", output, Texts.output(x));
        VectorVersions fresh = Texts.loaded("list 8 7 6 5 4 3;");
        fresh.writeVersion(0);
        x.writeVersion(0);
        Expect.same("as in a new object", Stores.everything(fresh), Stores.everything(x));
        Expect.same("only version 0", 1, x.versionCount());
        Expect.same("not released", false, x.isReleased(0));
        Expect.nothingThere("no change can be undone", x::undo);
        Expect.nothingThere("no state is saved", x::restoreState);
        Expect.same("next number", 1, x.append(0, 1));
        Expect.same("next node", 4, x.rootOf(1));
        VectorVersions y = changed();
        Expect.same("empty setup", 0, Texts.load(y, ""));
        Expect.same("no node", 0, y.createdNodes());
        Expect.nothingThere("no change can be undone", y::undo);
        Expect.nothingThere("no state is saved", y::restoreState);
    }

    private static void invalidSetup() {
        for (String text : new String[] {"list", "list 1 2 3;x", ";", "list" + " 7".repeat(65) + ";", "collect;"}) {
            VectorVersions x = changed();
            VectorVersions same = changed();
            Texts.load(x, text);
            Texts.run(x, "?");
            Texts.run(same, "?");
            Expect.same("everything after '" + text + "'", Stores.everything(same), Stores.everything(x));
            Expect.same("changes after '" + text + "'", 3, x.undo());
            Expect.same("saved state after '" + text + "'", 3, x.restoreState());
            Expect.same("its elements", "1 -2 7 7 0 12 3 1 9 4 8", Stores.elements(x, 2));
        }
    }

    private static void setupAnswers() {
        for (int size : Stores.EDGE_SIZES) {
            VectorVersions x = new VectorVersions();
            Expect.same("answer for " + size, size, Texts.load(x, Texts.counting(size)));
            Expect.same("size", size, x.size(0));
        }
        VectorVersions x = new VectorVersions();
        Expect.same("65 values", -1, Texts.load(x, Texts.counting(65)));
        Expect.same("unfinished", -1, Texts.load(x, "list"));
        Expect.same("empty text", 0, Texts.load(x, ""));
    }

    private static void oneChange() {
        VectorVersions x = new VectorVersions();
        Expect.same("three statements", 3, Texts.run(x, "append 0 1;append 1 2;release 0;"));
        Expect.same("one change", 0, x.undo());
        Expect.same("all three are undone", 1, x.versionCount());
        Expect.same("the release too", false, x.isReleased(0));
        Texts.run(x, "");
        Texts.run(x, "release 5;append 0 1;");
        Texts.run(x, "collect;");
        Expect.same("nothing was made", 1, x.versionCount());
        Expect.same("three changes, two without a statement", 3, Stores.undoAll(x));
        for (int i = 0; i < 9; i++) {
            Texts.run(x, "");
        }
        Expect.same("only eight are kept", 8, Stores.undoAll(x));
        x.set(0, 0, 1);
        for (int i = 0; i < 8; i++) {
            Texts.run(x, "release 5;");
        }
        Expect.same("they drop an older one", 8, Stores.undoAll(x));
        Expect.same("the dropped one stays", 2, x.versionCount());
    }

    private static void invalidScript() {
        for (String text : new String[] {"append 0 1;append 0", "release 0;x", "release 0;release 40;",
            "append 0 1;".repeat(31), "append 0 1;;", "list 1;"}) {
            VectorVersions x = changed();
            VectorVersions same = changed();
            Texts.run(x, text);
            Texts.load(x, "?");
            Texts.load(same, "?");
            Expect.same("everything after '" + text + "'", Stores.everything(same), Stores.everything(x));
            Expect.same("changes after '" + text + "'", 3, x.undo());
        }
    }

    private static void scriptAnswers() {
        VectorVersions x = new VectorVersions();
        Expect.same("none", 0, Texts.run(x, ""));
        Expect.same("one", 1, Texts.run(x, "collect;"));
        Expect.same("thirty", 30, Texts.run(x, "collect;".repeat(30)));
        Expect.same("31", -1, Texts.run(x, "collect;".repeat(31)));
        Expect.same("none of two", 0, Texts.run(x, "release 1;collect;"));
        Expect.same("one of two", 1, Texts.run(x, "release 0;release 0;"));
        Expect.same("29 of thirty", 29, Texts.run(x, "collect;".repeat(29) + "release 0;"));
        Expect.same("invalid behind a refused one", -1, Texts.run(x, "release 9;x"));
        Expect.same("unfinished", -1, Texts.run(x, "collect"));
    }

    // ---- promises 6 and 7 ----

    private static void latestCode() {
        VectorVersions x = new VectorVersions();
        Texts.load(x, "x");
        Expect.same("setup", 1, x.errorCode());
        Texts.run(x, "release 40;");
        Expect.same("script", 2, x.errorCode());
        Texts.load(x, Texts.counting(65));
        Expect.same("setup again", 3, x.errorCode());
        Texts.run(x, "collect;".repeat(31));
        Expect.same("script again", 3, x.errorCode());
        Texts.load(x, "list");
        x.append(0, 1);
        x.undo();
        x.collect();
        Texts.feed(x, "list 1;");
        Expect.same("other calls leave it", 1, x.errorCode());
    }

    private static void noError() {
        VectorVersions x = new VectorVersions();
        Expect.same("no such call", 0, x.errorCode());
        Texts.load(x, "x");
        Texts.load(x, "list 1;");
        Expect.same("valid setup", 0, x.errorCode());
        Texts.load(x, "x");
        Texts.run(x, "collect;");
        Expect.same("valid script", 0, x.errorCode());
        Texts.load(x, "x");
        Texts.run(x, "release 9;");
        Expect.same("valid script that ends at once", 0, x.errorCode());
        Texts.load(x, "x");
        Texts.load(x, "");
        Expect.same("empty setup", 0, x.errorCode());
        Texts.run(x, "x");
        Texts.run(x, "");
        Expect.same("empty script", 0, x.errorCode());
    }

    private static void latestOffset() {
        VectorVersions x = new VectorVersions();
        Texts.load(x, "x");
        Expect.same("offset 0", 0, x.errorOffset());
        Texts.run(x, "release 40;");
        Expect.same("script", 8, x.errorOffset());
        Texts.load(x, " ".repeat(599) + "?");
        Expect.same("last byte", 599, x.errorOffset());
        Texts.load(x, " ".repeat(596) + "list");
        Expect.same("end of a full buffer", 600, x.errorOffset());
        x.append(0, 1);
        x.undo();
        Texts.feed(x, "list 1;");
        Expect.same("other calls leave it", 600, x.errorOffset());
    }

    private static void noOffset() {
        VectorVersions x = new VectorVersions();
        Expect.same("no such call", -1, x.errorOffset());
        Texts.load(x, "list x");
        Expect.same("error", 5, x.errorOffset());
        Texts.load(x, "list 1;");
        Expect.same("valid setup", -1, x.errorOffset());
        Texts.run(x, "release");
        Expect.same("error in a script", 7, x.errorOffset());
        Texts.run(x, "release 7;");
        Expect.same("valid script that ends at once", -1, x.errorOffset());
    }
}
