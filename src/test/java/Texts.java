/** Puts texts into the input buffer and reads the output. */
final class Texts {
    private Texts() {
    }

    /** Appends a text of characters 0 to 255 in blocks of 20 bytes and cuts off what the last block has too much. */
    static void feed(VectorVersions x, String text) {
        int length = 0;
        for (int start = 0; start < text.length(); start += 20) {
            int before = x.appendInput(
                word(text, start), word(text, start + 4), word(text, start + 8),
                word(text, start + 12), word(text, start + 16));
            length = before - 20 + Math.min(20, text.length() - start);
        }
        x.truncateInput(length);
    }

    private static int word(String text, int start) {
        int word = 0;
        for (int i = start; i < start + 4; i++) {
            word = word << 8 | (i < text.length() ? text.charAt(i) & 255 : 32);
        }
        return word;
    }

    static int load(VectorVersions x, String text) {
        feed(x, text);
        return x.loadSetup();
    }

    static int run(VectorVersions x, String text) {
        feed(x, text);
        return x.runScript();
    }

    static VectorVersions loaded(String text) {
        VectorVersions x = new VectorVersions();
        load(x, text);
        return x;
    }

    /** A setup of one list with the numbers from 0. */
    static String counting(int size) {
        StringBuilder text = new StringBuilder("list");
        for (int i = 0; i < size; i++) {
            text.append(' ').append(i);
        }
        return text.append(';').toString();
    }

    static String output(VectorVersions x) {
        StringBuilder text = new StringBuilder();
        int next = x.outputByte(0);
        for (int i = 1; next != VectorVersions.NONE && i < 400; i++) {
            text.append((char) next);
            next = x.outputByte(i);
        }
        return text.toString();
    }

    static String written(VectorVersions x, int version) {
        x.writeVersion(version);
        return output(x);
    }
}
