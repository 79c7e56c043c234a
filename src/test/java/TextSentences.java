/** The terms of texts: setups, scripts, tokens and text errors. */
final class TextSentences {
    private static final String TERMS = "Terms";
    private static final int SYNTAX = 1;
    private static final int OUT_OF_RANGE = 2;
    private static final int TOO_MANY = 3;
    private static final String THIRTY = "collect;".repeat(30);

    private TextSentences() {
    }

    static void hold(Sentences s) {
        setups(s);
        scripts(s);
        tokens(s);
        errors(s);
    }

    private static void setups(Sentences s) {
        s.hold(TERMS, "The input buffer holds at most 600 bytes.", TextSentences::sixHundredBytes);
        s.hold(TERMS, "A setup consists of statements; each statement ends with a semicolon:",
            TextSentences::setupStatements);
        s.hold(TERMS, "list { VALUE }", TextSentences::listForm);
        s.hold(TERMS, "VALUE is a number of 0 to 999, or the word minus and such a number.", TextSentences::values);
        s.hold(TERMS, "The braces mean that the value can be missing and can be repeated.", TextSentences::braces);
        s.hold(TERMS, "The elements of all list statements together, in their order, are the elements of version 0.",
            TextSentences::allLists);
    }

    private static void scripts(Sentences s) {
        s.hold(TERMS, "A script consists of at most 30 statements; each statement ends with a semicolon:",
            TextSentences::scriptStatements);
        s.hold(TERMS, "set VERSION INDEX VALUE | append VERSION VALUE | truncate VERSION SIZE | release VERSION | collect",
            TextSentences::scriptForms);
        s.hold(TERMS, "VERSION is 0 to 39, INDEX is 0 to 63, and SIZE is 0 to 64.", TextSentences::ranges);
    }

    private static void tokens(Sentences s) {
        s.hold(TERMS, "A token is a word, a number or a semicolon.", TextSentences::kindsOfTokens);
        s.hold(TERMS, "A word is a maximal run of lower-case letters and has at most 8 of them.", TextSentences::words);
        s.hold(TERMS, "A number is a maximal run of digits and has at most 3 of them.", TextSentences::numbers);
        s.hold(TERMS, "Spaces (byte 32) and line feeds (byte 10) may stand before, between and after tokens.",
            TextSentences::blanks);
        s.hold(TERMS, "They are necessary only between two words and between two numbers.", TextSentences::necessaryBlanks);
    }

    private static void errors(Sentences s) {
        s.hold(TERMS, "A text is read from left to right, and the first error is reported with the offset of the first byte "
            + "of its token.", TextSentences::firstError);
        s.hold(TERMS, "The offset of an error at the end of the text is the length of the text.", TextSentences::endOfText);
        s.hold(TERMS, "If several errors apply to one token, the error with the smallest code is reported.",
            TextSentences::smallestCode);
        s.hold(TERMS, "SYNTAX: the token cannot stand at this place, is too long, or is a byte that starts no token, or the "
            + "text ends within a statement.", TextSentences::syntax);
        s.hold(TERMS, "OUT_OF_RANGE: a number is outside its range.", TextSentences::outOfRange);
        s.hold(TERMS, "TOO_MANY: the first token of a 65th value of a setup, or the first word of the 31st statement of a "
            + "script.", TextSentences::tooMany);
    }

    // ---- whole texts ----

    private static String shown(String text) {
        String plain = text.replace("\n", "\\n");
        return plain.length() > 60 ? plain.substring(0, 30) + ".." + plain.substring(plain.length() - 28) : plain;
    }

    static void setup(String text, String elements) {
        VectorVersions x = new VectorVersions();
        int size = elements.isEmpty() ? 0 : elements.split(" ").length;
        Expect.same("setup '" + shown(text) + "' size", size, Texts.load(x, text));
        Expect.same("setup '" + shown(text) + "' code", 0, x.errorCode());
        Expect.same("setup '" + shown(text) + "' elements", elements, Stores.elements(x, 0));
    }

    static void badSetup(String text, int code, int offset) {
        VectorVersions x = new VectorVersions();
        Expect.same("setup '" + shown(text) + "'", -1, Texts.load(x, text));
        Expect.same("setup '" + shown(text) + "' code", code, x.errorCode());
        Expect.same("setup '" + shown(text) + "' offset", offset, x.errorOffset());
        Expect.same("setup '" + shown(text) + "' is not loaded", 10, x.size(0));
    }

    static VectorVersions script(String text, int executed) {
        VectorVersions x = new VectorVersions();
        Expect.same("script '" + shown(text) + "'", executed, Texts.run(x, text));
        Expect.same("script '" + shown(text) + "' code", 0, x.errorCode());
        return x;
    }

    static void badScript(String text, int code, int offset) {
        VectorVersions x = new VectorVersions();
        Expect.same("script '" + shown(text) + "'", -1, Texts.run(x, text));
        Expect.same("script '" + shown(text) + "' code", code, x.errorCode());
        Expect.same("script '" + shown(text) + "' offset", offset, x.errorOffset());
        Expect.same("script '" + shown(text) + "' is not executed", 1, x.versionCount());
    }

    private static String sixtyFourValues() {
        return "list " + "7 ".repeat(63) + "7";
    }

    private static String sixtyFourElements() {
        return "7 ".repeat(63) + "7";
    }

    // ---- setups ----

    private static void sixHundredBytes() {
        VectorVersions x = new VectorVersions();
        for (int i = 1; i <= 30; i++) {
            Expect.same("block " + i, 20 * i, x.appendInput(0x20202020, 0x20202020, 0x20202020, 0x20202020, 0x20202020));
        }
        Expect.same("601 bytes and more", -1, x.appendInput(0x3b3b3b3b, 0x3b3b3b3b, 0x3b3b3b3b, 0x3b3b3b3b, 0x3b3b3b3b));
        Expect.same("600 bytes stand", false, x.truncateInput(601));
        Expect.same("600 bytes stand", true, x.truncateInput(600));
        Expect.same("600 blanks", 0, x.loadSetup());
        setup("list 1" + " ".repeat(591) + "23;", "1 23");
        badSetup("list 1" + " ".repeat(592) + "23", SYNTAX, 600);
        badSetup(" ".repeat(594) + "list 1", SYNTAX, 600);
    }

    private static void setupStatements() {
        setup("", "");
        setup("list;", "");
        setup("list 1;list 2;list 3;", "1 2 3");
        setup("list;".repeat(120), "");
        badSetup("list", SYNTAX, 4);
        badSetup("list 1", SYNTAX, 6);
        badSetup("list 1;list 2", SYNTAX, 13);
        badSetup("list 1 list 2;", SYNTAX, 7);
        badSetup(";", SYNTAX, 0);
        badSetup("list;;", SYNTAX, 5);
    }

    private static void listForm() {
        setup("list 4 minus 5;", "4 -5");
        badSetup("4;", SYNTAX, 0);
        badSetup("minus 4;", SYNTAX, 0);
        badSetup("list list;", SYNTAX, 5);
        badSetup("list 4 set;", SYNTAX, 7);
        badSetup("collect;", SYNTAX, 0);
        badSetup("append 0 1;", SYNTAX, 0);
    }

    private static void values() {
        setup("list 0 999 minus 0 minus 999 minus 1;", "0 999 0 -999 -1");
        badSetup("list 1000;", SYNTAX, 5);
        badSetup("list minus 1000;", SYNTAX, 11);
        badSetup("list minus;", SYNTAX, 10);
        badSetup("list minus minus 1;", SYNTAX, 11);
        badSetup("list minus list 1;", SYNTAX, 11);
        badSetup("list -1;", SYNTAX, 5);
        VectorVersions x = script("set 0 0 999;set 0 0 minus 999;append 0 0;append 0 minus 0;", 4);
        Expect.same("999 in a script", 999, x.get(1, 0));
        Expect.same("-999 in a script", -999, x.get(2, 0));
        Expect.same("0 in a script", 0, x.get(3, 10));
        Expect.same("minus 0 in a script", 0, x.get(4, 10));
        badScript("set 0 0 1000;", SYNTAX, 8);
        badScript("append 0 minus 1000;", SYNTAX, 15);
        badScript("append 0 minus;", SYNTAX, 14);
        badScript("append 0 minus minus 1;", SYNTAX, 15);
    }

    private static void braces() {
        setup("list;", "");
        setup("list 5;", "5");
        setup("list 5 5;", "5 5");
        setup("list minus 5 minus 5 5;", "-5 -5 5");
        setup(sixtyFourValues() + ";", sixtyFourElements());
    }

    private static void allLists() {
        setup("list 1 2;list 3;", "1 2 3");
        setup("list;list 1;list;list minus 2;list;", "1 -2");
        setup("list 9 8 7 6 5;list 4 3 2 1 0;", "9 8 7 6 5 4 3 2 1 0");
        setup(sixtyFourValues().substring(0, 5 + 2 * 40) + ";" + "list" + " 7".repeat(24) + ";", sixtyFourElements());
        VectorVersions x = Texts.loaded("list 1 2 3;list 4 5;");
        Expect.same("one tree for both lists", "[1,2,3,4|5]", Texts.written(x, 0));
    }

    // ---- scripts ----

    private static void scriptStatements() {
        script("", 0);
        script("collect;", 1);
        script("collect;".repeat(29), 29);
        script(THIRTY, 30);
        script(THIRTY + "\n ", 30);
        badScript(THIRTY + "collect;", TOO_MANY, 240);
        badScript("collect;".repeat(60), TOO_MANY, 240);
        badScript("collect", SYNTAX, 7);
        badScript("collect;collect", SYNTAX, 15);
        badScript("collect collect;", SYNTAX, 8);
        badScript(";", SYNTAX, 0);
        badScript("collect;;", SYNTAX, 8);
        VectorVersions x = new VectorVersions();
        Expect.same("thirty appends", 30, Texts.run(x, "append 0 1;".repeat(30)));
        Expect.same("thirty new versions", 31, x.versionCount());
    }

    private static void scriptForms() {
        VectorVersions x = script("set 0 9 1;append 1 minus 2;truncate 2 5;release 2;collect;", 5);
        Expect.same("set", 1, x.get(1, 9));
        Expect.same("append", true, x.isReleased(2));
        Expect.same("truncate", 5, x.size(3));
        Expect.same("collect", 0, x.garbageNodes());
        badScript("set;", SYNTAX, 3);
        badScript("set 0;", SYNTAX, 5);
        badScript("set 0 0;", SYNTAX, 7);
        badScript("set 0 0 0 0;", SYNTAX, 10);
        badScript("append;", SYNTAX, 6);
        badScript("append 0;", SYNTAX, 8);
        badScript("append 0 0 0;", SYNTAX, 11);
        badScript("truncate;", SYNTAX, 8);
        badScript("truncate 0;", SYNTAX, 10);
        badScript("truncate 0 0 0;", SYNTAX, 13);
        badScript("release;", SYNTAX, 7);
        badScript("release 0 0;", SYNTAX, 10);
        badScript("collect 0;", SYNTAX, 8);
        badScript("collect minus 0;", SYNTAX, 8);
        badScript("set minus 0 0 0;", SYNTAX, 4);
        badScript("set 0 minus 0 0;", SYNTAX, 6);
        badScript("append minus 0 0;", SYNTAX, 7);
        badScript("truncate 0 minus 0;", SYNTAX, 11);
        badScript("release minus 0;", SYNTAX, 8);
        badScript("list 0;", SYNTAX, 0);
        badScript("undo;", SYNTAX, 0);
        badScript("0;", SYNTAX, 0);
    }

    private static void ranges() {
        VectorVersions full = Stores.withFortyVersions();
        Expect.same("VERSION 0 and 39", 2, Texts.run(full, "release 39;release 0;"));
        Expect.same("VERSION 39 is released", true, full.isReleased(39));
        badScript("set 40 0 0;", OUT_OF_RANGE, 4);
        badScript("append 40 0;", OUT_OF_RANGE, 7);
        badScript("truncate 40 0;", OUT_OF_RANGE, 9);
        badScript("release 40;", OUT_OF_RANGE, 8);
        badScript("release 999;", OUT_OF_RANGE, 8);
        VectorVersions x = Stores.counting(64);
        Expect.same("INDEX 0 and 63", 2, Texts.run(x, "set 0 0 5;set 1 63 6;"));
        Expect.same("INDEX 63 is set", 6, x.get(2, 63));
        badScript("set 0 64 0;", OUT_OF_RANGE, 6);
        badScript("set 0 999 0;", OUT_OF_RANGE, 6);
        Expect.same("SIZE 64 and 0", 2, Texts.run(x, "truncate 0 64;truncate 3 0;"));
        Expect.same("SIZE 64 stays", 64, x.size(3));
        Expect.same("SIZE 0 is empty", 0, x.size(4));
        badScript("truncate 0 65;", OUT_OF_RANGE, 11);
        badScript("truncate 0 999;", OUT_OF_RANGE, 11);
        script("release 39;", 0);
        script("set 0 63 0;", 0);
        script("truncate 0 64;", 0);
    }

    // ---- tokens ----

    private static void kindsOfTokens() {
        for (int value = 0; value < 256; value++) {
            boolean digit = value >= '0' && value <= '9';
            boolean blank = value == 32 || value == 10;
            if (blank) {
                setup("list 1 " + (char) value + ";", "1");
            } else if (digit) {
                setup("list 1 " + (char) value + ";", "1 " + (char) value);
            } else if (value != ';') {
                badSetup("list 1 " + (char) value + ";", SYNTAX, 7);
            }
            if (!blank) {
                badSetup("" + (char) value, SYNTAX, 0);
                badScript("" + (char) value, SYNTAX, 0);
            }
        }
        bytesBehindWordsAndNumbers();
    }

    private static void bytesBehindWordsAndNumbers() {
        for (int value = 0; value < 256; value++) {
            String sign = "" + (char) value;
            boolean letter = value >= 'a' && value <= 'z';
            boolean digit = value >= '0' && value <= '9';
            boolean blank = value == 32 || value == 10;
            if (digit) {
                setup("list" + sign + ";", sign);
                setup("list 1" + sign + ";", "1" + sign);
            } else if (blank) {
                setup("list" + sign + ";", "");
                setup("list 1" + sign + ";", "1");
            } else {
                badSetup("list" + sign + ";", SYNTAX, letter ? 0 : value == ';' ? 5 : 4);
                badSetup("list 1" + sign + ";", SYNTAX, value == ';' ? 7 : 6);
            }
        }
    }

    private static void words() {
        otherLetters("list", ";");
        otherLetters("set", " 0 0 0;");
        otherLetters("append", " 0 0;");
        otherLetters("truncate", " 0 0;");
        otherLetters("release", " 0;");
        otherLetters("collect", ";");
        for (int i = 0; i < 5; i++) {
            badSetup("list " + withOtherLetter("minus", i) + " 1;", SYNTAX, 5);
        }
        lengthsOfWords();
    }

    private static String withOtherLetter(String word, int place) {
        char other = word.charAt(place) == 'a' ? 'z' : (char) (word.charAt(place) - 1);
        return word.substring(0, place) + other + word.substring(place + 1);
    }

    private static void otherLetters(String word, String rest) {
        for (int i = 0; i < word.length(); i++) {
            badSetup(withOtherLetter(word, i) + rest, SYNTAX, 0);
            badScript(withOtherLetter(word, i) + rest, SYNTAX, 0);
        }
        badSetup(word.substring(1) + rest, SYNTAX, 0);
        badScript(word.substring(1) + rest, SYNTAX, 0);
    }

    private static void lengthsOfWords() {
        script("truncate 0 5;", 1);
        badScript("truncates 0 5;", SYNTAX, 0);
        badScript("truncat 0 5;", SYNTAX, 0);
        badScript("truncateset 0 5 0;", SYNTAX, 0);
        badScript("abcdefgh 0 5;", SYNTAX, 0);
        badScript("abcdefghi 0 5;", SYNTAX, 0);
        badScript("Truncate 0 5;", SYNTAX, 0);
        badScript("tRuncate 0 5;", SYNTAX, 0);
        badSetup("lists 1;", SYNTAX, 0);
        badSetup("lis 1;", SYNTAX, 0);
        badSetup("listlist;", SYNTAX, 0);
        badSetup("list minusminus 1;", SYNTAX, 5);
        badSetup("list minu 1;", SYNTAX, 5);
        badSetup("list " + "a".repeat(595), SYNTAX, 5);
    }

    private static void numbers() {
        setup("list 0 00 000;", "0 0 0");
        setup("list 7 07 007;", "7 7 7");
        setup("list 9 99 999;", "9 99 999");
        badSetup("list 0000;", SYNTAX, 5);
        badSetup("list 1000;", SYNTAX, 5);
        badSetup("list 9999;", SYNTAX, 5);
        badSetup("list 1 22 333 4444;", SYNTAX, 14);
        badSetup("list 123456;", SYNTAX, 5);
        badSetup("list 4294967296;", SYNTAX, 5);
        badSetup("list 4294967297;", SYNTAX, 5);
        badSetup("list 18446744073709551617;", SYNTAX, 5);
        badSetup("list " + "0".repeat(594) + ";", SYNTAX, 5);
        script("release 039;", 0);
        badScript("release 0000;", SYNTAX, 8);
        badScript("release 4294967296;", SYNTAX, 8);
    }

    private static void blanks() {
        setup(" list 1;", "1");
        setup("\nlist 1;", "1");
        setup("list\n1\n;", "1");
        setup("list 1; ", "1");
        setup("list 1;\n", "1");
        setup("list 1 ; list 2 ;", "1 2");
        setup("  \n\n list \n minus \n 3 \n\n ; \n ", "-3");
        setup(" ", "");
        setup("\n", "");
        setup(" ".repeat(600), "");
        setup("\n".repeat(600), "");
        VectorVersions x = script("\n set\n0\n 9 \nminus\n \n8 ;\n\ncollect\n;\n", 2);
        Expect.same("blanks in a script", -8, x.get(1, 9));
        script(" \n ", 0);
        badSetup("list\t1;", SYNTAX, 4);
        badSetup("list 1\r;", SYNTAX, 6);
        badSetup("list 1;\u0000", SYNTAX, 7);
        badSetup("\u00a0list 1;", SYNTAX, 0);
        badSetup("list 1\u000b;", SYNTAX, 6);
    }

    private static void necessaryBlanks() {
        setup("list5minus2 7minus0;list;", "5 -2 7 0");
        setup("list1;list2;", "1 2");
        setup("list 12;", "12");
        setup("list 1 2;", "1 2");
        setup("list 1\n2;", "1 2");
        badSetup("listminus 5;", SYNTAX, 0);
        setup("list minus 5;", "-5");
        setup("list\nminus 5;", "-5");
        VectorVersions x = script("set0 9minus7;append1minus8;truncate2 11;release0;collect;", 5);
        Expect.same("without blanks", "5 -2 7 7 0 12 3 1 9 -7 -8", Stores.elements(x, 3));
        badScript("append 01;", SYNTAX, 9);
        badScript("set 0 01;", SYNTAX, 8);
        badScript("set0000;", SYNTAX, 3);
    }

    // ---- errors ----

    private static void firstError() {
        badSetup("list 1 ? ; list 1000; x", SYNTAX, 7);
        badSetup("list 1; list 2 20000 ?;", SYNTAX, 15);
        badSetup("list 1 wordtoolong;", SYNTAX, 7);
        badScript("append 40 1000 ?", OUT_OF_RANGE, 7);
        badScript("append 39 1000 40;", SYNTAX, 10);
        badScript("set 0 64 x;", OUT_OF_RANGE, 6);
        badScript("set 0 x 64;", SYNTAX, 6);
        badScript("release 40", OUT_OF_RANGE, 8);
        badScript("append 0 1;truncate 0 65;release 40;", OUT_OF_RANGE, 22);
        badScript(THIRTY + " append 40 1;", TOO_MANY, 241);
        badScript("collect 1;" + THIRTY, SYNTAX, 8);
        badScript("release 99;" + THIRTY, OUT_OF_RANGE, 8);
        badSetup(sixtyFourValues() + " minus ?", TOO_MANY, 133);
        badSetup("?" + sixtyFourValues() + " 1;", SYNTAX, 0);
    }

    private static void endOfText() {
        badSetup("list", SYNTAX, 4);
        badSetup("list ", SYNTAX, 5);
        badSetup("list 1 \n\n", SYNTAX, 9);
        badSetup("list minus", SYNTAX, 10);
        badSetup("list minus  ", SYNTAX, 12);
        badSetup(" list;list", SYNTAX, 10);
        badSetup(sixtyFourValues(), SYNTAX, 132);
        badSetup("list" + " ".repeat(596), SYNTAX, 600);
        badScript("set", SYNTAX, 3);
        badScript("set 0", SYNTAX, 5);
        badScript("set 0 0 ", SYNTAX, 8);
        badScript("set 0 0 minus", SYNTAX, 13);
        badScript("set 0 0 0", SYNTAX, 9);
        badScript("collect\n", SYNTAX, 8);
        badScript(THIRTY.substring(0, 239), SYNTAX, 239);
        VectorVersions x = new VectorVersions();
        Texts.feed(x, "list 1 2 3;");
        x.truncateInput(8);
        x.loadSetup();
        Expect.same("end of a text that was cut off", 8, x.errorOffset());
    }

    private static void smallestCode() {
        badScript("release 1000;", SYNTAX, 8);
        badScript("collect 99;", SYNTAX, 8);
        badScript("release 0 99;", SYNTAX, 10);
        badScript("99;", SYNTAX, 0);
        badScript(THIRTY + "word;", SYNTAX, 240);
        badScript(THIRTY + "list 1;", SYNTAX, 240);
        badScript(THIRTY + "minus 1;", SYNTAX, 240);
        badScript(THIRTY + "collects;", SYNTAX, 240);
        badScript(THIRTY + "7;", SYNTAX, 240);
        badScript(THIRTY + ";", SYNTAX, 240);
        badScript(THIRTY + "?", SYNTAX, 240);
        badSetup(sixtyFourValues() + " 1000;", SYNTAX, 133);
        badSetup(sixtyFourValues() + " word;", SYNTAX, 133);
        badSetup(sixtyFourValues() + " list;", SYNTAX, 133);
        badSetup(sixtyFourValues() + " ?;", SYNTAX, 133);
    }

    private static void syntax() {
        badSetup("list 1 collect;", SYNTAX, 7);
        badSetup("5 list;", SYNTAX, 0);
        badSetup("list 1234;", SYNTAX, 5);
        badSetup("list minuslist 1;", SYNTAX, 5);
        badSetup("list 1.5;", SYNTAX, 6);
        badSetup("list +1;", SYNTAX, 5);
        badSetup("list 1", SYNTAX, 6);
        badScript("append 0 list;", SYNTAX, 9);
        badScript("append append 0;", SYNTAX, 7);
        badScript("append 0 1234;", SYNTAX, 9);
        badScript("collectcollect;", SYNTAX, 0);
        badScript("append 0,1;", SYNTAX, 8);
        badScript("append 0 1;\u00ff", SYNTAX, 11);
        badScript("append 0 1", SYNTAX, 10);
    }

    private static void outOfRange() {
        badScript("release 40;", OUT_OF_RANGE, 8);
        badScript("release 040;", OUT_OF_RANGE, 8);
        badScript("set 39 64 1;", OUT_OF_RANGE, 7);
        badScript("set 39 064 1;", OUT_OF_RANGE, 7);
        badScript("truncate 39 65;", OUT_OF_RANGE, 12);
        badScript("collect;release 999;", OUT_OF_RANGE, 16);
        badScript("collect;".repeat(29) + "release 40;", OUT_OF_RANGE, 240);
        script("release 39;", 0);
        script("set 39 63 1;", 0);
        script("truncate 39 64;", 0);
    }

    private static void tooMany() {
        setup(sixtyFourValues() + ";", sixtyFourElements());
        setup(sixtyFourValues() + ";list;", sixtyFourElements());
        badSetup(sixtyFourValues() + " 7;", TOO_MANY, 133);
        badSetup(sixtyFourValues() + " 999;", TOO_MANY, 133);
        badSetup(sixtyFourValues() + " minus 7;", TOO_MANY, 133);
        badSetup(sixtyFourValues() + " minus;", TOO_MANY, 133);
        badSetup(sixtyFourValues() + " minus", TOO_MANY, 133);
        badSetup(sixtyFourValues() + ";list 7;", TOO_MANY, 138);
        badSetup(sixtyFourValues() + ";list;list minus 7;", TOO_MANY, 143);
        badSetup("list " + "minus7".repeat(64) + " 1;", TOO_MANY, 390);
        badSetup("list " + "minus7".repeat(64) + "minus1;", TOO_MANY, 389);
        script(THIRTY, 30);
        badScript(THIRTY + "set 0 0 0;", TOO_MANY, 240);
        badScript(THIRTY + "append 0 0;", TOO_MANY, 240);
        badScript(THIRTY + "truncate 0 0;", TOO_MANY, 240);
        badScript(THIRTY + "release 0;", TOO_MANY, 240);
        badScript(THIRTY + "\n collect;", TOO_MANY, 242);
        badScript(THIRTY + "collect", TOO_MANY, 240);
        badScript(THIRTY + "set", TOO_MANY, 240);
        badScript("append 0 1;".repeat(31), TOO_MANY, 330);
    }
}
