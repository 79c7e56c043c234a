/** The calls that README.md shows, each with its answer behind it. */
public final class Example {
    private Example() {
    }

    public static void main(String[] arguments) {
        VectorVersions store = makeVersions();
        runScripts(store);
        loadSetup(store);
        callInVain(store);
    }

    private static VectorVersions makeVersions() {
        VectorVersions store = new VectorVersions();
        show(store.get(0, 5));                     // 12
        int changed = store.set(0, 5, 20);
        int longer = store.append(changed, 6);
        show(changed + " and " + longer);          // 1 and 2
        show(store.get(changed, 5));               // 20
        show(store.get(0, 5));                     // 12
        show(store.nodesCreatedFor(changed));      // 2
        show(store.sharedNodes(0, changed));       // 2
        show(store.release(0));                    // 2
        show(store.isReleased(0));                 // true
        show(store.undo());                        // 2
        show(store.isReleased(0));                 // false
        return store;
    }

    private static void runScripts(VectorVersions store) {
        put(store, "append 1 minus 6; truncate 0 4; set 3 11 7;");
        show(store.runScript());                   // 2
        show(store.errorCode());                   // 0
        show(store.errorOffset());                 // -1
        show(read(store, 3));                      // [5,-2,7,7|0,20,3,1|9,4,-6]
        show(read(store, 4));                      // [5,-2,7,7]
        show(store.undo());                        // 2
        show(store.versionCount());                // 3
        put(store, "append 1 6; set 3 64 7;");
        show(store.runScript());                   // -1
        show(store.errorCode());                   // 2
        show(store.errorOffset());                 // 18
    }

    private static void loadSetup(VectorVersions store) {
        put(store, "list 1 2 3 4; list minus 5;");
        show(store.loadSetup());                   // 5
        show(read(store, 0));                      // [1,2,3,4|-5]
    }

    private static void callInVain(VectorVersions store) {
        try {
            store.set(0, 0, 1000);
        } catch (IllegalArgumentException refused) {
            show("1000 is outside the range");     // 1000 is outside the range
        }
        show(store.versionCount());                // 1
    }

    // Appends 20 ASCII characters a call, with spaces behind the last one, and cuts these off again.
    static boolean put(VectorVersions store, String text) {
        for (int i = 0; i < text.length(); i += 20) {
            int length = store.appendInput(word(text, i), word(text, i + 4), word(text, i + 8),
                word(text, i + 12), word(text, i + 16));
            if (length == VectorVersions.NONE) {
                return false;
            }
        }
        return store.truncateInput(text.length());
    }

    private static int word(String text, int start) {
        int word = 0;
        for (int i = start; i < start + 4; i++) {
            word = word << 8 | (i < text.length() ? text.charAt(i) : ' ');
        }
        return word;
    }

    static String read(VectorVersions store, int version) {
        int length = store.writeVersion(version);
        StringBuilder text = new StringBuilder();
        for (int i = 0; i < length; i++) {
            text.append((char) store.outputByte(i));
        }
        return text.toString();
    }

    private static void show(Object answer) {
        System.out.println(answer);
    }
}
