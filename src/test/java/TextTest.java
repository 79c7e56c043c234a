/** Promises 1 to 7: a new object, the input buffer, setups, scripts and their errors. */
public final class TextTest {
    private TextTest() {
    }

    public static void main(String[] args) {
        newObject();
        appendInput();
        truncateInput();
        validSetups();
        setupErrors();
        setupReplacesEverything();
        validScripts();
        scriptErrors();
        scriptExecution();
        errorReports();
        textsAfterUnfinishedOnes();
        Expect.finish("TextTest");
    }

    private static void newObject() {
        VectorVersions x = new VectorVersions();
        Expect.same("1 elements", "[5,-2,7,7|0,12,3,1|9,4]", Texts.written(x, 0));
        Expect.same("1 versions", 1, x.versionCount());
        Expect.same("1 created", 4, x.createdNodes());
        Expect.same("1 stored", 4, x.storedNodes());
        Expect.same("1 root", 3, x.rootOf(0));
        Expect.same("1 first leaf", 0, x.childOf(3, 0));
        Expect.same("1 parent", -1, x.parentOf(0));
        Expect.same("1 created for", 4, x.nodesCreatedFor(0));
        Expect.same("1 buffer is empty", false, x.truncateInput(1));
        Expect.same("1 error", 0, x.errorCode());
        Expect.same("1 error offset", -1, x.errorOffset());
        Expect.same("1 output", -1, new VectorVersions().outputByte(0));
        Expect.throwing("1 undo", java.util.NoSuchElementException.class, x::undo);
        Expect.throwing("1 restore", java.util.NoSuchElementException.class, x::restoreState);
    }

    private static void appendInput() {
        VectorVersions x = new VectorVersions();
        Expect.same("2 first", 20, x.appendInput(0x6c697374, 0x20312032, 0x20332034, 0x20352036, 0x20372038));
        Expect.same("2 second", 40, x.appendInput(0x3b202020, 0x20202020, 0x20202020, 0x20202020, 0x20202020));
        Expect.same("2 bytes in order", 8, x.loadSetup());
        Expect.same("2 elements", "[1,2,3,4|5,6,7,8]", Texts.written(x, 0));
        for (int i = 1; i <= 30; i++) {
            Expect.same("2 block " + i, 20 * i, x.appendInput(0, -1, 0, 0, 0));
        }
        Expect.same("2 full", -1, x.appendInput(0, 0, 0, 0, 0));
        x.truncateInput(581);
        Expect.same("2 one too many", -1, x.appendInput(0, 0, 0, 0, 0));
        Expect.same("2 refusal changes nothing", false, x.truncateInput(582));
        x.truncateInput(580);
        Expect.same("2 just fits", 600, x.appendInput(0, 0, 0, 0, 0));
        highBytes();
    }

    private static void highBytes() {
        VectorVersions x = new VectorVersions();
        Texts.feed(x, "list 1");
        x.appendInput(0xff202020, 0, 0, 0, 0);
        x.loadSetup();
        Expect.same("2 high byte", 6, x.errorOffset());
        x.appendInput(0x20202020, 0x20202080, 0, 0, 0);
        x.loadSetup();
        Expect.same("2 last byte of a word", 7, x.errorOffset());
    }

    private static void truncateInput() {
        VectorVersions x = new VectorVersions();
        Expect.same("3 negative", false, x.truncateInput(-1));
        Expect.same("3 empty to 0", true, x.truncateInput(0));
        x.appendInput(0x6c697374, 0x3b6c6973, 0x743b6c69, 0x73743b6c, 0x6973743b);
        Expect.same("3 too long", false, x.truncateInput(21));
        Expect.same("3 same length", true, x.truncateInput(20));
        Expect.same("3 smallest int", false, x.truncateInput(Integer.MIN_VALUE));
        Expect.same("3 greatest int", false, x.truncateInput(Integer.MAX_VALUE));
        Expect.same("3 shorter", true, x.truncateInput(7));
        Expect.same("3 not longer again", false, x.truncateInput(8));
        Expect.same("3 the rest is gone", -1, x.loadSetup());
        Expect.same("3 error at the new end", 5, x.errorOffset());
    }

    private static void setup(String text, int size, String elements) {
        VectorVersions x = new VectorVersions();
        Expect.same("4 size of " + text, size, Texts.load(x, text));
        Expect.same("4 code of " + text, 0, x.errorCode());
        Expect.same("4 offset of " + text, -1, x.errorOffset());
        Expect.same("4 elements of " + text, elements, Texts.written(x, 0));
        Expect.same("4 buffer after " + text, false, x.truncateInput(1));
    }

    private static void validSetups() {
        setup("list 5 minus 2 7 7 0;list 12 3 1 9 4;", 10, "[5,-2,7,7|0,12,3,1|9,4]");
        setup("", 0, "[]");
        setup(" \n ", 0, "[]");
        setup("list;", 0, "[]");
        setup("list;list;list 3;list;", 1, "[3]");
        setup("list5minus2 7;list1;", 4, "[5,-2,7,1]");
        setup("\nlist\n0 00 000 007\nminus\n999 999\n;\n", 6, "[0,0,0,7|-999,999]");
        setup("list minus 0;", 1, "[0]");
        setup("list minus000;", 1, "[0]");
        setup(Texts.counting(64), 64, allWritten());
    }

    private static String allWritten() {
        StringBuilder text = new StringBuilder("[0");
        for (int i = 1; i < 64; i++) {
            text.append(i % 4 == 0 ? '|' : ',').append(i);
        }
        return text.append(']').toString();
    }

    private static void badSetup(String text, int code, int offset) {
        VectorVersions x = new VectorVersions();
        x.set(0, 0, 1);
        x.saveState();
        Expect.same("4 answer to " + text, -1, Texts.load(x, text));
        Expect.same("6 code of " + text, code, x.errorCode());
        Expect.same("7 offset of " + text, offset, x.errorOffset());
        Expect.same("4 buffer after " + text, false, x.truncateInput(1));
        Expect.same("4 versions after " + text, 2, x.versionCount());
        Expect.same("4 undo after " + text, 0, x.undo());
        Expect.same("4 saved state after " + text, 2, x.restoreState());
    }

    private static void setupErrors() {
        badSetup("list 1", 1, 6);
        badSetup("list 1 \n ", 1, 9);
        badSetup("list", 1, 4);
        badSetup("list minus", 1, 10);
        badSetup("list minus;", 1, 10);
        badSetup("list minus minus 1;", 1, 11);
        badSetup("list 1 list 2;", 1, 7);
        badSetup(";", 1, 0);
        badSetup("list 1;;", 1, 7);
        badSetup("1", 1, 0);
        badSetup("minus 1;", 1, 0);
        badSetup("lists 1;", 1, 0);
        badSetup("lis 1;", 1, 0);
        badSetup("listlist 1;", 1, 0);
        badSetup("list minusone;", 1, 5);
        badSetup("list 1000;", 1, 5);
        badSetup("list 0000;", 1, 5);
        badSetup("list 42949672960;", 1, 5);
        badSetup("list minus 1000;", 1, 11);
        badSetup("list -1;", 1, 5);
        badSetup("list 1,2;", 1, 6);
        badSetup("list\t1;", 1, 4);
        badSetup("list 1\r\n;", 1, 6);
        badSetup("List 1;", 1, 0);
        badSetup("lisT 1;", 1, 0);
        badSetup("list 1;\u0000", 1, 7);
        badSetup("list 1;\u00ff", 1, 7);
        badSetup("set 0 0 1;", 1, 0);
        badSetup("list set;", 1, 5);
        badSetup("list 1; collect;", 1, 8);
        tooManyValues();
    }

    private static void tooManyValues() {
        String full = Texts.counting(64).replace(";", "");
        int end = full.length();
        badSetup(full + " 1;", 3, end + 1);
        badSetup(full + " minus 1;", 3, end + 1);
        badSetup(full + " minus;", 3, end + 1);
        badSetup(full + " 1000;", 1, end + 1);
        badSetup(full + " word;", 1, end + 1);
        badSetup(full + " ?", 1, end + 1);
        badSetup(full, 1, end);
        badSetup(full + ";list 5;", 3, end + 6);
        badSetup(full + ";list minus 5;", 3, end + 6);
        setup(full + ";list;", 64, allWritten());
    }

    private static void setupReplacesEverything() {
        VectorVersions x = new VectorVersions();
        x.append(0, 6);
        x.release(0);
        x.collect();
        x.saveState();
        Texts.written(x, 1);
        Expect.same("4 answer", 3, Texts.load(x, "list 8 9;list minus 7;"));
        Expect.same("4 output stays", "[5,-2,7,7|0,12,3,1|9,4,6]", Texts.output(x));
        Expect.same("4 one version", 1, x.versionCount());
        Expect.same("4 live", 1, x.liveCount());
        Expect.same("4 not released", false, x.isReleased(0));
        Expect.same("4 created", 1, x.createdNodes());
        Expect.same("4 stored", 1, x.storedNodes());
        Expect.same("4 created for", 1, x.nodesCreatedFor(0));
        Expect.same("4 parent", -1, x.parentOf(0));
        Expect.throwing("4 nothing to undo", java.util.NoSuchElementException.class, x::undo);
        Expect.throwing("4 nothing saved", java.util.NoSuchElementException.class, x::restoreState);
        Expect.same("4 next version", 1, x.append(0, 1));
        Expect.same("4 elements", "[8,9,-7,1]", Texts.written(x, 1));
        numberingOfSetup();
    }

    private static void numberingOfSetup() {
        VectorVersions x = Texts.loaded(Texts.counting(21));
        Expect.same("4 nodes of 21 elements", 9, x.createdNodes());
        Expect.same("4 leaf of 0", 0, x.leafOf(0, 0));
        Expect.same("4 leaf of 20", 5, x.leafOf(0, 20));
        Expect.same("4 root", 8, x.rootOf(0));
        Expect.same("4 inner nodes", 6, x.childOf(8, 0));
        Expect.same("4 inner nodes", 7, x.childOf(8, 1));
        Expect.same("4 last leaves", 4, x.childOf(7, 0));
        Expect.same("4 last leaves", 5, x.childOf(7, 1));
        Expect.same("4 no more", -1, x.childOf(7, 2));
        Expect.same("4 all nodes of 64", 21, Texts.loaded(Texts.counting(64)).createdNodes());
    }

    private static void validScripts() {
        VectorVersions x = new VectorVersions();
        Expect.same("5 all words", 5, Texts.run(x, "set 0 1 minus 4;append 0 8;truncate 1 2;release 2;collect;"));
        Expect.same("5 code", 0, x.errorCode());
        Expect.same("5 offset", -1, x.errorOffset());
        Expect.same("5 set", "[5,-4,7,7|0,12,3,1|9,4]", Texts.written(x, 1));
        Expect.same("5 truncate", "[5,-4]", Texts.written(x, 3));
        Expect.same("5 release", true, x.isReleased(2));
        Expect.same("5 collect", 7, x.storedNodes());
        Expect.same("5 buffer is empty", false, x.truncateInput(1));
        Expect.same("5 one change", 0, x.undo());
        Expect.same("5 undone", 1, x.versionCount());
        Expect.same("5 empty text", 0, Texts.run(x, ""));
        Expect.same("5 blank text", 0, Texts.run(x, "\n \n"));
        Expect.same("5 each is a change", 1, x.undo());
        Expect.same("5 each is a change", 0, x.undo());
        Expect.same("5 no spaces", 2, Texts.run(x, "set0 9minus12;truncate 1 000;"));
        Expect.same("5 no spaces", "[5,-2,7,7|0,12,3,1|9,-12]", Texts.written(x, 1));
        Expect.same("5 thirty", 30, Texts.run(x, "collect;".repeat(30)));
    }

    private static void badScript(String text, int code, int offset) {
        VectorVersions x = new VectorVersions();
        Expect.same("5 answer to " + text, -1, Texts.run(x, text));
        Expect.same("6 code of " + text, code, x.errorCode());
        Expect.same("7 offset of " + text, offset, x.errorOffset());
        Expect.same("5 buffer after " + text, false, x.truncateInput(1));
        Expect.same("5 not executed " + text, 1, x.versionCount());
        Expect.throwing("5 no change " + text, java.util.NoSuchElementException.class, x::undo);
    }

    private static void scriptErrors() {
        badScript("append 0 1;append 0", 1, 19);
        badScript("append 0 1;append 0 ", 1, 20);
        badScript("append 0 1;append", 1, 17);
        badScript("append 0 1", 1, 10);
        badScript("append 0 minus", 1, 14);
        badScript("append 0 minus;", 1, 14);
        badScript("append 0 minus minus 1;", 1, 15);
        badScript("append 0 1 2;", 1, 11);
        badScript("append 0;", 1, 8);
        badScript("append minus 1 1;", 1, 7);
        badScript("append 40 1;", 2, 7);
        badScript("append 39 1000;", 1, 10);
        badScript("append 0000 1;", 1, 7);
        badScript("append 999 x", 2, 7);
        badScript("append x 40", 1, 7);
        badScript("set 0 64 1;", 2, 6);
        badScript("set 40 64 1;", 2, 4);
        badScript("set 0 63;", 1, 8);
        badScript("set 0 minus 1 1;", 1, 6);
        badScript("set 0 1 minus 1000;", 1, 14);
        badScript("truncate 0 65;", 2, 11);
        badScript("truncate 0 minus 1;", 1, 11);
        badScript("truncate 0;", 1, 10);
        badScript("truncates 0 1;", 1, 0);
        badScript("release 40;", 2, 8);
        badScript("release;", 1, 7);
        badScript("release 0 0;", 1, 10);
        badScript("collect 0;", 1, 8);
        badScript("collect", 1, 7);
        badScript("collect;;", 1, 8);
        badScript("collect;7;", 1, 8);
        badScript("list 1;", 1, 0);
        badScript("minus 1;", 1, 0);
        badScript("undo;", 1, 0);
        badScript("appendset 0 1;", 1, 0);
        badScript("append 0 1;\u0080", 1, 11);
        badScript("append 0 -1;", 1, 9);
        badScript("append\t0 1;", 1, 6);
        tooManyStatements();
    }

    private static void tooManyStatements() {
        String full = "collect;".repeat(30);
        badScript(full + "collect;", 3, 240);
        badScript(full + " append 0 1;", 3, 241);
        badScript(full + "set", 3, 240);
        badScript(full + "release 99;", 3, 240);
        badScript(full + "truncate", 3, 240);
        badScript(full + "word;", 1, 240);
        badScript(full + "list;", 1, 240);
        badScript(full + ";", 1, 240);
        badScript(full + "1;", 1, 240);
        Expect.same("5 blanks behind thirty", 30, Texts.run(new VectorVersions(), full + " \n"));
    }

    private static void scriptExecution() {
        VectorVersions x = new VectorVersions();
        Expect.same("5 ends before a missing version", 1, Texts.run(x, "append 0 1;append 2 1;append 0 2;"));
        Expect.same("5 the first remains", 2, x.versionCount());
        Expect.same("5 no error", 0, x.errorCode());
        Expect.same("5 ends before a missing element", 0, Texts.run(x, "set 0 10 1;append 0 1;"));
        Expect.same("5 ends before a missing size", 0, Texts.run(x, "truncate 0 11;append 0 1;"));
        Expect.same("5 ends before a released version", 1, Texts.run(x, "release 0;append 0 1;append 1 1;"));
        Expect.same("5 ends before another release", 0, Texts.run(x, "release 0;"));
        Expect.same("5 a script without an executed statement is a change", 4, x.undo());
        Expect.same("5 still released", true, x.isReleased(0));
        Expect.same("5 the release is another change", 3, x.undo());
        Expect.same("5 release undone", false, x.isReleased(0));
        VectorVersions y = Texts.loaded(Texts.counting(64));
        Expect.same("5 ends before a 65th element", 1, Texts.run(y, "set 0 63 5;append 0 1;"));
        VectorVersions z = new VectorVersions();
        Texts.run(z, "append 0 1;".repeat(30));
        Expect.same("5 ends before a 41st version", 9, Texts.run(z, "append 0 1;".repeat(12)));
        Expect.same("5 forty versions", 40, z.versionCount());
        Expect.same("5 release still goes", 2, Texts.run(z, "release 39;collect;truncate 0 0;"));
    }

    private static void textsAfterUnfinishedOnes() {
        VectorVersions x = new VectorVersions();
        x.truncate(0, 10);
        Texts.run(x, "set 0 0 minus");
        Expect.same("5 after a minus", 1, Texts.run(x, "append 1 5;"));
        Expect.same("5 after a minus", 5, x.get(2, 10));
        Texts.load(x, "list minus");
        Expect.same("4 after a minus", 2, Texts.load(x, "list 1 2;"));
        Expect.same("4 after a minus", "[1,2]", Texts.written(x, 0));
        Texts.load(x, "list 8 9");
        Expect.same("4 after a list", 1, Texts.load(x, "list 3;"));
        Expect.same("4 after a list", "[3]", Texts.written(x, 0));
        Texts.run(x, "append 0 7;append 0");
        Expect.same("5 after a statement", 1, Texts.run(x, "append 0 4;"));
        Expect.same("5 after a statement", "[3,4]", Texts.written(x, 1));
    }

    private static void errorReports() {
        VectorVersions x = new VectorVersions();
        Texts.run(x, "append 0 1;release 40;");
        Expect.same("6 script", 2, x.errorCode());
        Expect.same("7 script", 19, x.errorOffset());
        x.append(0, 1);
        x.undo();
        Texts.feed(x, "list");
        Expect.same("6 stays", 2, x.errorCode());
        Expect.same("7 stays", 19, x.errorOffset());
        x.loadSetup();
        Expect.same("6 setup", 1, x.errorCode());
        Expect.same("7 setup", 4, x.errorOffset());
        Texts.run(x, "collect;");
        Expect.same("6 valid script", 0, x.errorCode());
        Expect.same("7 valid script", -1, x.errorOffset());
        Texts.load(x, "?");
        Expect.same("6 again", 1, x.errorCode());
        Expect.same("7 again", 0, x.errorOffset());
        Texts.load(x, "list 1;");
        Expect.same("6 valid setup", 0, x.errorCode());
        Expect.same("7 valid setup", -1, x.errorOffset());
    }
}
