/**
 * The boundaries of section 1 and of promises 1 to 16, 59 and 60: each test bears the words of the
 * document that it holds the program to.
 */
public final class TextEdgeTest {
    private static final String KEYWORDS = "tolerance steam box yarn shape size piece plain ribbed lace times";
    private static final String YARN = "yarn a 5 5;";
    private static int wrong = 0;
    private static String words = "";

    private static void says(String sentence) {
        words = sentence;
    }

    private static void due(String call, int got, int want) {
        if (got != want) {
            wrong++;
            System.out.println("\"" + words + "\": " + call + " answered " + got + ", due is " + want);
        }
    }

    private static void same(String what, String got, String want) {
        if (!got.equals(want)) {
            wrong++;
            System.out.println("\"" + words + "\": " + what + " is <" + got + ">, due is <" + want + ">");
        }
    }

    private static int append(HosieryPlant x, String text, int from) {
        int[] fours = new int[5];
        for (int j = 0; j < 20; j++) {
            int sign = from + j < text.length() ? text.charAt(from + j) : ' ';
            fours[j / 4] = fours[j / 4] << 8 | sign;
        }
        return x.append(fours[0], fours[1], fours[2], fours[3], fours[4]);
    }

    private static void type(HosieryPlant x, String text) {
        for (int i = 0; i < text.length(); i += 20) {
            append(x, text, i);
        }
        x.truncate(text.length());
    }

    private static HosieryPlant typed(String text) {
        HosieryPlant x = new HosieryPlant();
        type(x, text);
        return x;
    }

    private static HosieryPlant accepted(String text, int pieces) {
        HosieryPlant x = typed(text);
        due("load of <" + text + ">", x.load(), pieces);
        due("errorCode of <" + text + ">", x.errorCode(), 0);
        due("errorPosition of <" + text + ">", x.errorPosition(), HosieryPlant.NONE);
        return x;
    }

    private static void refused(String text, int code, int position) {
        HosieryPlant x = typed(text);
        due("load of <" + text + ">", x.load(), HosieryPlant.PARSE_ERROR);
        due("errorCode of <" + text + ">", x.errorCode(), code);
        due("errorPosition of <" + text + ">", x.errorPosition(), position);
    }

    private static String output(HosieryPlant x) {
        StringBuilder text = new StringBuilder();
        int next = x.outputByte(0);
        for (int i = 1; next != HosieryPlant.NONE; i++) {
            text.append((char) next);
            next = x.outputByte(i);
        }
        return text.toString();
    }

    private static String written(HosieryPlant x) {
        int length = x.writePlant();
        String text = output(x);
        due("writePlant()", length, text.length());
        return text;
    }

    /** What undo() and the questions show, all the way back; the input buffer is looked at by itself. */
    private static String plants(HosieryPlant x) {
        StringBuilder all = new StringBuilder();
        int left = x.undoCount();
        for (int i = 0; i <= left; i++) {
            all.append(written(x)).append(x.days()).append('/').append(x.undoCount());
            for (int j = 0; j < x.pieceCount(); j++) {
                all.append(' ').append(x.length(j)).append(':').append(x.state(j));
            }
            all.append('|').append(x.undo()).append('|');
        }
        return all.toString();
    }

    public static void main(String[] args) {
        checkNewObject();
        checkFullBuffer();
        checkAppend();
        checkTruncate();
        checkLoad();
        checkErrorOfLastLoad();
        checkEveryByte();
        checkSymbols();
        checkBlanks();
        checkNames();
        checkKeywords();
        checkEachRange();
        checkSizeRange();
        checkWhatIsLoaded();
        checkDefaults();
        checkOnce();
        checkEarlierYarn();
        checkNameSpaces();
        checkNumbering();
        checkMostYarnsShapesSizes();
        checkMostPieces();
        checkFirstError();
        checkSmallestCode();
        checkEachToken();
        checkEndOfText();
        checkFind();
        checkWrite();
        checkOutputByte();
        System.exit(wrong == 0 ? 0 : 1);
    }

    private static void checkNewObject() {
        says("Creates an empty plant with empty buffers.");
        HosieryPlant x = new HosieryPlant();
        due("yarnCount()", x.yarnCount(), 0);
        due("shapeCount()", x.shapeCount(), 0);
        due("sizeCount()", x.sizeCount(), 0);
        due("pieceCount()", x.pieceCount(), 0);
        due("days()", x.days(), 0);
        due("undoCount()", x.undoCount(), 0);
        due("undo()", x.undo(), HosieryPlant.NONE);
        due("outputByte(0)", x.outputByte(0), HosieryPlant.NONE);
        due("truncate(1)", x.truncate(1), HosieryPlant.NONE);
        due("truncate(0)", x.truncate(0), 0);
        says("0 if it had none or there was no load()");
        due("errorCode()", x.errorCode(), 0);
        says("NONE if it had none or there was no load()");
        due("errorPosition()", x.errorPosition(), HosieryPlant.NONE);
        says("At first there are no yarns, shapes, sizes and pieces, and all settings have their defaults.");
        due("lengthTolerance()", x.lengthTolerance(), 30);
        due("shadeTolerance()", x.shadeTolerance(), 6);
        due("steam()", x.steam(), 60);
        same("the written plant", written(x), "tolerance 30 6;steam 60;box 2;");
        says("An object is used for at most 512 calls");
        HosieryPlant y = new HosieryPlant();
        for (int i = 1; i < 512; i++) {
            due("day() number " + i, y.day(), 0);
        }
        due("days() as the 512th call", y.days(), 511);
    }

    /** A text of that many bytes that loads, with the last semicolon as the last byte. */
    private static String rightText(int length) {
        String start = YARN + "piece a plain 500 5 times 3;";
        return start + " ".repeat(length - start.length() - 6) + "box 5;";
    }

    private static void checkFullBuffer() {
        says("The input buffer holds at most 1200 bytes.");
        HosieryPlant x = new HosieryPlant();
        String text = rightText(1200);
        for (int i = 0; i < 60; i++) {
            due("append number " + i, append(x, text, 20 * i), 20 * i + 20);
        }
        says("NONE, and nothing is appended, if it would exceed 1200");
        due("append to the full buffer", append(x, "box 1;", 0), HosieryPlant.NONE);
        due("truncate(1201)", x.truncate(1201), HosieryPlant.NONE);
        due("load of 1200 bytes", x.load(), 3);
        same("the box", written(x).substring(24, 30), "box 5;");
        for (int length = 1180; length <= 1200; length++) {
            HosieryPlant y = typed(rightText(length));
            due("append to " + length, append(y, ";", 0), length == 1180 ? 1200 : HosieryPlant.NONE);
            int now = length == 1180 ? 1200 : length;
            due("truncate beyond " + now, y.truncate(now + 1), HosieryPlant.NONE);
            due("truncate back to " + length, y.truncate(length), length);
            due("load of " + length + " bytes", y.load(), 3);
        }
        says("The error position is the offset of the token's first byte");
        refused(rightText(1199) + "$", 1, 1199);
        refused(rightText(1199) + ";", 1, 1199);
        says("for the end of the text it is the text's length");
        refused(rightText(1200).substring(0, 1199) + " ", 1, 1200);
        refused(rightText(1200).substring(0, 1199), 1, 1199);
        says("a word is a maximal run of lowercase letters a-z; a number is a maximal run of decimal digits [in a full buffer]");
        refused("a".repeat(1200), 1, 0);
        refused("9".repeat(1200), 1, 0);
        refused(";".repeat(1200), 1, 0);
        refused("yarn " + "a".repeat(1195), 1, 5);
        refused("steam " + "9".repeat(1194), 2, 6);
        due("steam() of a long number", accepted("steam " + "0".repeat(1191) + "99;", 0).steam(), 99);
        accepted(" ".repeat(1200), 0);
        accepted("\n".repeat(1200), 0);
    }

    private static void checkAppend() {
        says("Appends 20 bytes to the input buffer: the four bytes of each parameter, most significant byte first.");
        String letters = "abcdefghijklmnopqrst";
        for (int i = 0; i < 20; i += 5) {
            HosieryPlant x = accepted("shape " + letters.substring(i, i + 5) + " 500;", 0);
            append(x, letters.substring(i) + letters.substring(0, i), 0);
            due("truncate(5)", x.truncate(5), 5);
            due("find of the first five", x.find(1), 0);
        }
        for (int i = 0; i < 20; i++) {
            // Each place in turn holds the greatest byte, in parameters with and without a sign.
            HosieryPlant x = new HosieryPlant();
            append(x, " ".repeat(i) + (char) 255, 0);
            due("load with 255 at " + i, x.load(), HosieryPlant.PARSE_ERROR);
            due("errorPosition with 255 at " + i, x.errorPosition(), i);
        }
        HosieryPlant y = new HosieryPlant();
        due("append(-1, ..)", y.append(-1, -1, -1, -1, -1), 20);
        due("append(least, ..)", y.append(Integer.MIN_VALUE, 0, 0, 0, Integer.MAX_VALUE), 40);
        says("Returns the new length of the buffer");
        for (int cut = 0; cut <= 40; cut += 8) {
            HosieryPlant x = new HosieryPlant();
            append(x, "", 0);
            append(x, "", 0);
            x.truncate(cut);
            due("append to " + cut, append(x, "", 0), cut + 20);
        }
    }

    private static void checkTruncate() {
        says("Cuts the input buffer to its first length bytes.");
        HosieryPlant x = accepted("yarn abc 5 5;yarn ab 5 5;yarn a 5 5;", 0);
        for (int length = 3; length >= 1; length--) {
            type(x, "abcdef");
            due("truncate(" + length + ")", x.truncate(length), length);
            due("find of the first " + length, x.find(0), 3 - length);
        }
        type(x, "abcdef");
        due("truncate(0)", x.truncate(0), 0);
        due("find of nothing", x.find(0), HosieryPlant.PARSE_ERROR);
        type(x, "abc");
        x.truncate(1);
        due("append after the cut", append(x, "bc", 0), 21);
        x.truncate(3);
        due("find of what was joined", x.find(0), 0);
        says("NONE, and nothing changes, if length is negative or greater than the current length");
        for (int length : new int[] {-1, 4, 5, 1200, 1201, Integer.MIN_VALUE, Integer.MAX_VALUE}) {
            type(x, "abc");
            due("truncate(" + length + ")", x.truncate(length), HosieryPlant.NONE);
            due("truncate to the same length", x.truncate(3), 3);
            due("find of the uncut name", x.find(0), 0);
            due("truncate(" + length + ") of nothing", x.truncate(length), HosieryPlant.NONE);
        }
    }

    private static void checkLoad() {
        says("Parses the input buffer and empties it.");
        HosieryPlant x = accepted(YARN + "piece a plain 500 5;", 1);
        due("truncate(1) after a load", x.truncate(1), HosieryPlant.NONE);
        type(x, "box 7;");
        due("load of a wrong text", x.load(), HosieryPlant.PARSE_ERROR);
        due("truncate(1) after a refused load", x.truncate(1), HosieryPlant.NONE);
        says("a text of zero or more statements");
        due("load of the empty buffer", x.load(), 0);
        due("pieceCount() after it", x.pieceCount(), 0);
        due("undoCount() after it", x.undoCount(), 2);
        accepted("box 3;", 0);
        says("On success the text replaces the plant.");
        HosieryPlant y = accepted("tolerance 1 2;steam 3;box 4;" + YARN + "shape s 500;size z 500 600;piece a plain 500 5 times 14;", 14);
        y.boardAll(0);
        y.day();
        type(y, "yarn b 6 6;piece b lace 600 7;");
        due("load()", y.load(), 1);
        same("the plant", written(y), "tolerance 30 6;steam 60;box 2;yarn b 6 6;piece b lace 600 7;");
        due("state(0)", y.state(0), 0);
        due("days()", y.days(), 0);
        due("length(1)", y.length(1), HosieryPlant.INVALID);
        says("then only the buffer and the parse error change");
        String whole = "steam 100;" + YARN + "shape s 520;piece a plain 500 5 times 2;";
        HosieryPlant spoilt = accepted(whole, 2);
        HosieryPlant twin = accepted(whole, 2);
        for (HosieryPlant each : new HosieryPlant[] {spoilt, twin}) {
            each.board(0, 0);
            each.writePlant();
        }
        type(spoilt, "tolerance 1 1;steam 1;box 1;yarn b 1 1;shape t 500;size t 500 500;piece b lace 500 1;piece b lace 500 1");
        due("load without the last semicolon", spoilt.load(), HosieryPlant.PARSE_ERROR);
        same("the output", output(spoilt), output(twin));
        same("the plants", plants(spoilt), plants(twin));
    }

    private static void checkErrorOfLastLoad() {
        says("Returns the code of the parse error of the last load()");
        HosieryPlant x = new HosieryPlant();
        String[] texts = {"", "?", "box 7;", "", "piece a", "box 1;box 1;", "box 1;"};
        int[] codes = {0, 1, 2, 0, 4, 3, 0};
        int[] positions = {HosieryPlant.NONE, 0, 4, HosieryPlant.NONE, 6, 6, HosieryPlant.NONE};
        for (int i = 0; i < texts.length; i++) {
            type(x, texts[i]);
            x.load();
            // Neither other calls nor other refusals touch it.
            x.find(0);
            x.find(3);
            x.truncate(1);
            type(x, "A");
            x.find(0);
            x.day();
            x.undo();
            x.undo();
            x.writePlant();
            due("errorCode() of <" + texts[i] + ">", x.errorCode(), codes[i]);
            due("errorPosition() of <" + texts[i] + ">", x.errorPosition(), positions[i]);
        }
    }

    private static boolean isBlank(char sign) {
        return sign == 32 || sign == 10;
    }

    private static boolean isLetter(char sign) {
        return sign >= 97 && sign <= 122;
    }

    private static boolean isDigit(char sign) {
        return sign >= 48 && sign <= 57;
    }

    private static void checkEveryByte() {
        says("each other byte except space (32) and newline (10) is a symbol of its own");
        for (char sign = 0; sign < 256; sign++) {
            String beforeNumber = "box" + sign + "2;";
            String afterNumber = "box 2" + sign + ";";
            String afterName = "yarn a" + sign + " 5 5;";
            if (isBlank(sign)) {
                accepted(beforeNumber, 0);
                accepted(afterNumber, 0);
                accepted(afterName, 0);
                accepted(sign + "box 2;" + sign, 0);
            } else if (isLetter(sign)) {
                refused(beforeNumber, 1, 0);
                refused(afterNumber, 1, 5);
                accepted(afterName, 0);
            } else if (isDigit(sign)) {
                if (sign == '0') {
                    accepted(beforeNumber, 0);
                } else {
                    refused(beforeNumber, 2, 3);
                }
                refused(afterNumber, 2, 4);
                refused(afterName, sign == '0' ? 2 : 1, sign == '0' ? 6 : 10);
            } else {
                refused(beforeNumber, 1, 3);
                refused(afterNumber, 1, sign == ';' ? 6 : 5);
                refused(afterName, 1, 6);
                refused(sign + "box 2;", 1, 0);
                refused("box 2;" + sign, 1, 6);
            }
        }
    }

    private static void checkSymbols() {
        says("each statement ends with ';'");
        refused("box 2", 1, 5);
        refused("box 2 steam 5;", 1, 6);
        refused("box 2;;", 1, 6);
        refused(";", 1, 0);
        refused(";box 2;", 1, 0);
        refused("box 2:", 1, 5);
        refused("box ;", 1, 4);
        says("a word is a maximal run of lowercase letters a-z; a number is a maximal run of decimal digits");
        accepted("box2;steam5;yarn a5 5;shape s500;size z500 600;piece a plain500 5times3;", 3);
        refused("boxsteam 2;", 1, 0);
        refused("bo x 2;", 1, 0);
        refused("yarn a5 51;", 2, 8);
        refused("yarn a 55;", 1, 9);
        refused("bOx 2;", 1, 0);
    }

    private static void checkBlanks() {
        says("Spaces and newlines only separate tokens.");
        accepted(" ", 0);
        accepted("\n", 0);
        accepted(" \n \n ", 0);
        HosieryPlant x = accepted("\n tolerance\n7  8\n;\n\nsteam \n 9 ;", 0);
        due("lengthTolerance()", x.lengthTolerance(), 7);
        due("shadeTolerance()", x.shadeTolerance(), 8);
        due("steam()", x.steam(), 9);
        refused("steam 1 0;", 1, 8);
        refused("\n\n steam\n\n 101;", 2, 11);
    }

    private static void checkNames() {
        says("A name is a word of 1 to 6 letters that is not a keyword.");
        for (String[] statement : new String[][] {{"yarn ", " 5 5;"}, {"shape ", " 500;"}, {"size ", " 500 500;"}}) {
            for (String name : "a z az abcdef zzzzzz aaaaaa".split(" ")) {
                accepted(statement[0] + name + statement[1], 0);
            }
            for (String name : "abcdefg aaaaaaa zzzzzzzzzzzzzzzzzzzz 7 ; A _ -".split(" ")) {
                says("also a word of more than 6 letters where a name is expected");
                refused(statement[0] + name + statement[1], 1, statement[0].length());
            }
        }
        accepted("yarn abcdef 5 5;piece abcdef plain 500 5;", 1);
        refused("yarn abcdef 5 5;piece abcdefg plain 500 5;", 1, 22);
        refused("yarn abcdef 5 5;piece abcdefabcdef plain 500 5;", 1, 22);
    }

    private static void checkKeywords() {
        says("The keywords are: tolerance steam box yarn shape size piece plain ribbed lace times.");
        for (String keyword : KEYWORDS.split(" ")) {
            refused("yarn " + keyword + " 5 5;", 1, 5);
            refused("shape " + keyword + " 500;", 1, 6);
            refused("size " + keyword + " 500 500;", 1, 5);
            refused("piece " + keyword + " plain 500 5;", 1, 6);
            // A word that is nearly a keyword is a name, if it is short enough, and no keyword.
            for (String near : new String[] {keyword.substring(1), keyword.substring(0, keyword.length() - 1), keyword + "s"}) {
                if (near.length() <= 6) {
                    accepted("yarn " + near + " 5 5;piece " + near + " plain 500 5;", 1);
                }
                refused(near + " 2;", 1, 0);
            }
            for (int i = 0; i < keyword.length(); i++) {
                String near = keyword.substring(0, i) + (keyword.charAt(i) == 'y' ? 'x' : 'y') + keyword.substring(i + 1);
                if (near.length() <= 6) {
                    accepted("yarn " + near + " 5 5;piece " + near + " plain 500 5;", 1);
                }
                refused(near + " 2 2;", 1, 0);
                refused(near + " a 500 500;", 1, 0);
                refused(YARN + "piece a " + near + " 500 5;", 1, 19);
                refused(YARN + "piece a plain 500 5 " + near + " 5;", 1, 31);
            }
        }
        for (String word : "plain ribbed lace times".split(" ")) {
            refused(word + " 2;", 1, 0);
        }
    }

    /** A number in the text's hole may be from least to greatest, and no other. */
    private static void range(String text, int least, int greatest) {
        int hole = text.indexOf('#');
        int pieces = text.contains("piece") ? 1 : 0;
        for (int good : new int[] {least, least + 1, greatest - 1, greatest}) {
            int loaded = text.contains("times") ? good : pieces;
            accepted(text.replace("#", "" + good), loaded);
            accepted(text.replace("#", "0" + good), loaded);
            accepted(text.replace("#", "0".repeat(100) + good), loaded);
        }
        if (least > 0) {
            refused(text.replace("#", "" + (least - 1)), 2, hole);
            refused(text.replace("#", "0"), 2, hole);
        }
        refused(text.replace("#", "" + (greatest + 1)), 2, hole);
        refused(text.replace("#", "0" + (greatest + 1)), 2, hole);
        refused(text.replace("#", greatest + "0"), 2, hole);
        refused(text.replace("#", "-" + greatest), 1, hole);
        // Numbers that would be in range if counting wrapped around.
        for (int bits : new int[] {16, 31, 32, 33, 63, 64, 65, 128}) {
            java.math.BigInteger power = java.math.BigInteger.ONE.shiftLeft(bits);
            for (int low : new int[] {least, greatest}) {
                if (bits > 16) {
                    refused(text.replace("#", power.add(java.math.BigInteger.valueOf(low)).toString()), 2, hole);
                }
            }
            refused(text.replace("#", power.toString()), 2, hole);
        }
        refused(text.replace("#", "9".repeat(500)), 2, hole);
        refused(text.replace("#", "1" + "0".repeat(500)), 2, hole);
    }

    private static void checkEachRange() {
        says("the length tolerance, 0 to 500");
        range("tolerance # 6;", 0, 500);
        says("the shade tolerance, 0 to 255");
        range("tolerance 30 #;", 0, 255);
        says("the setting strength in percent, 0 to 100");
        range("steam #;", 0, 100);
        says("the pairs in a box, 1 to 6");
        range("box #;", 1, 6);
        says("a yarn, its stretch limit in percent, 1 to 100");
        range("yarn a # 5;", 1, 100);
        says("its recovery per day in percent, 0 to 50");
        range("yarn a 5 #;", 0, 50);
        says("a shape and its length, 500 to 9999");
        range("shape s #;", 500, 9999);
        says("its knitted length, 500 to 9999");
        range(YARN + "piece a plain # 5;", 500, 9999);
        says("and its shade [0 to 255]");
        range(YARN + "piece a plain 500 #;", 0, 255);
        says("with times, N equal pieces, 1 to 14");
        range(YARN + "piece a plain 500 5 times #;", 1, 14);
    }

    private static void checkSizeRange() {
        says("a size and its least and greatest length, 500 to 9999");
        range("size z # 9999;", 500, 9999);
        range("size z 500 #;", 500, 9999);
        says("MAX is not less than MIN");
        range("size z 700 #;", 700, 9999);
        range("size z 9998 #;", 9998, 9999);
        accepted("size z 9999 9999;", 0);
        refused("size z 9999 9998;", 2, 12);
        refused("size z 501 500;", 2, 11);
        refused("size z 499 499;", 2, 7);
        refused("size z 10000 10000;", 2, 7);
    }

    private static void checkWhatIsLoaded() {
        says("The statements are: [the least and the greatest numbers arrive]");
        String least = "tolerance 0 0;steam 0;box 1;yarn a 1 0;shape s 500;size z 500 500;piece a plain 500 0;";
        same("the least plant", written(accepted(least, 1)), least);
        String most = "tolerance 500 255;steam 100;box 6;yarn a 100 50;shape s 9999;size z 9999 9999;piece a lace 9999 255;";
        same("the greatest plant", written(accepted(most, 1)), most);
        says("with times, N equal pieces");
        HosieryPlant x = accepted(YARN + "piece a lace 777 8;piece a ribbed 555 9 times 13;", 14);
        for (int i = 1; i < 14; i++) {
            due("knitted(" + i + ")", x.knitted(i), 555);
            due("shade(" + i + ")", x.shade(i), 9);
            due("kindOf(" + i + ")", x.kindOf(i), 1);
        }
        due("knitted(0)", x.knitted(0), 777);
        due("kindOf(0)", x.kindOf(0), 2);
    }

    private static void checkDefaults() {
        says("default 30 [..] default 6 [..] default 60 [..] default 2");
        same("no settings", written(accepted("", 0)), "tolerance 30 6;steam 60;box 2;");
        same("a tolerance", written(accepted("tolerance 1 2;", 0)), "tolerance 1 2;steam 60;box 2;");
        same("a steam", written(accepted("steam 1;", 0)), "tolerance 30 6;steam 1;box 2;");
        same("a box", written(accepted("box 1;", 0)), "tolerance 30 6;steam 60;box 1;");
        HosieryPlant x = accepted("tolerance 1 2;steam 3;box 4;", 0);
        type(x, "shape s 500;");
        x.load();
        same("the defaults come back", written(x), "tolerance 30 6;steam 60;box 2;shape s 500;");
    }

    private static void checkOnce() {
        says("tolerance, steam and box may occur at most once each");
        for (String[] statement : new String[][] {{"tolerance", " 30 6;"}, {"steam", " 60;"}, {"box", " 2;"}}) {
            String once = statement[0] + statement[1];
            accepted(once, 0);
            says("a second tolerance, steam or box statement (at its first word)");
            refused(once + once, 3, once.length());
            refused(once + statement[0] + " 9999;", 3, once.length());
            refused(once + statement[0], 3, once.length());
            refused(YARN + once + "shape s 500;" + once + once, 3, 23 + once.length());
            refused(once + " \n" + statement[0] + "?", 3, once.length() + 2);
            HosieryPlant x = accepted(once, 0);
            type(x, once);
            due("load of the same again", x.load(), 0);
            type(x, once + once);
            due("load of it twice", x.load(), HosieryPlant.PARSE_ERROR);
            type(x, once);
            due("load of it once after the refusal", x.load(), 0);
        }
        accepted("tolerance 1 1;steam 1;box 1;", 0);
        accepted("box 1;steam 1;tolerance 1 1;", 0);
    }

    private static void checkEarlierYarn() {
        says("YARN is the name of a yarn of an earlier statement.");
        accepted(YARN + "piece a plain 500 5;", 1);
        refused("piece a plain 500 5;" + YARN, 4, 6);
        refused(YARN + "piece b plain 500 5;yarn b 5 5;", 4, 17);
        refused(YARN + "piece aa plain 500 5;", 4, 17);
        refused("yarn aa 5 5;piece a plain 500 5;", 4, 18);
        refused("yarn abcdef 5 5;piece abcdeg plain 500 5;", 4, 22);
        says("4 an unknown yarn [the yarns of the plant before are not known]");
        HosieryPlant x = accepted(YARN, 0);
        type(x, "piece a plain 500 5;");
        due("load()", x.load(), HosieryPlant.PARSE_ERROR);
        due("errorCode()", x.errorCode(), 4);
        due("errorPosition()", x.errorPosition(), 6);
    }

    private static void checkNameSpaces() {
        says("Yarns, shapes and sizes have separate name spaces.");
        accepted("yarn a 5 5;shape a 500;size a 500 500;piece a plain 500 5;", 1);
        refused("shape a 500;size a 500 500;piece a plain 500 5;", 4, 33);
        says("a name that is already used in its name space");
        refused("yarn a 5 5;shape b 500;yarn a 5 5;", 3, 28);
        refused("shape a 500;yarn b 5 5;shape a 500;", 3, 29);
        refused("size a 500 500;yarn b 5 5;size a 500 500;", 3, 31);
        refused("yarn abcdef 5 5;yarn abcdef 6 6;", 3, 21);
        String five = "yarn a 5 5;yarn b 5 5;yarn c 5 5;yarn d 5 5;yarn e 5 5;";
        for (String name : "a b c d e".split(" ")) {
            refused(five + "yarn " + name + " 5 5;", 3, five.length() + 5);
        }
        String seven = "shape a 500;shape b 500;shape c 500;shape d 500;shape e 500;shape f 500;shape g 500;";
        refused(seven + "shape a 500;", 3, seven.length() + 6);
        refused(seven + "shape g 500;", 3, seven.length() + 6);
        String sizes = "size a 500 500;size b 500 500;size c 500 500;size d 500 500;size e 500 500;";
        refused(sizes + "size a 500 500;", 3, sizes.length() + 5);
        refused(sizes + "size e 500 500;", 3, sizes.length() + 5);
        accepted("yarn a 5 5;yarn aa 5 5;yarn aaa 5 5;yarn aaaa 5 5;yarn aaaaa 5 5;yarn aaaaaa 5 5;", 0);
        HosieryPlant x = accepted("yarn a 5 5;shape a 500;size a 500 500;", 0);
        type(x, "yarn a 5 5;shape a 500;size a 500 500;");
        due("load of the same names again", x.load(), 0);
    }

    private static void checkNumbering() {
        says("numbered from 0, each in the order of their statements");
        HosieryPlant x = accepted("size c 500 500;yarn b 5 5;piece b lace 600 1;shape e 500;yarn a 6 6;shape d 500;"
                + "piece a plain 601 2 times 2;size b 500 500;piece b plain 602 3;", 4);
        int[] knitted = {600, 601, 601, 602};
        int[] yarns = {0, 1, 1, 0};
        for (int i = 0; i < 4; i++) {
            due("knitted(" + i + ")", x.knitted(i), knitted[i]);
            due("yarnOf(" + i + ")", x.yarnOf(i), yarns[i]);
        }
        String[] names = {"b", "a", "e", "d", "c", "b"};
        for (int i = 0; i < 6; i++) {
            type(x, names[i]);
            due("find(" + i / 2 + ") of " + names[i], x.find(i / 2), i % 2);
        }
    }

    private static void checkMostYarnsShapesSizes() {
        says("The limits are 6 yarns, 8 shapes, 6 sizes and 14 pieces.");
        String[][] kinds = {{"yarn ", " 5 5;", "6"}, {"shape ", " 500;", "8"}, {"size ", " 500 500;", "6"}};
        for (String[] kind : kinds) {
            StringBuilder text = new StringBuilder();
            int most = Integer.parseInt(kind[2]);
            for (int i = 0; i < most; i++) {
                accepted(text.toString(), 0);
                text.append(kind[0]).append((char) ('a' + i)).append(kind[1]);
            }
            HosieryPlant x = accepted(text.toString(), 0);
            due("the count of " + kind[0], kind == kinds[0] ? x.yarnCount() : kind == kinds[1] ? x.shapeCount() : x.sizeCount(), most);
            type(x, "" + (char) ('a' + most - 1));
            due("find of the last " + kind[0], x.find(kind == kinds[0] ? 0 : kind == kinds[1] ? 1 : 2), most - 1);
            says("too many yarns, shapes, sizes or pieces (at the first word of the statement)");
            int end = text.length();
            refused(text + kind[0] + "x" + kind[1], 5, end);
            refused(text + kind[0] + "a" + kind[1], 5, end);
            refused(text + kind[0] + "?", 5, end);
            refused(text + kind[0].trim(), 5, end);
            refused(text + " \n" + kind[0] + "x" + kind[1], 5, end + 2);
            accepted(text + "box 2;" + "steam 5;tolerance 5 5;", 0);
        }
        StringBuilder all = new StringBuilder();
        for (int i = 0; i < 8; i++) {
            all.append("shape ").append((char) ('a' + i)).append(" 500;");
            if (i < 6) {
                all.append("yarn ").append((char) ('a' + i)).append(" 5 5;");
                all.append("size ").append((char) ('a' + i)).append(" 500 500;");
            }
        }
        accepted(all + "piece f plain 500 5 times 14;", 14);
        HosieryPlant x = accepted(all.toString(), 0);
        type(x, all.toString());
        due("load of a full plant again", x.load(), 0);
    }

    private static void checkMostPieces() {
        says("The limits are [..] 14 pieces.");
        StringBuilder singly = new StringBuilder(YARN);
        for (int i = 0; i < 14; i++) {
            accepted(singly.toString(), i);
            singly.append("piece a plain 500 5;");
        }
        due("pieceCount() of a full plant", accepted(singly.toString(), 14).pieceCount(), 14);
        says("too many [..] pieces (at the first word of the statement)");
        refused(singly + "piece a plain 500 5;", 5, singly.length());
        refused(singly + "piece", 5, singly.length());
        refused(singly + "piece b plain 500 5;", 5, singly.length());
        refused(singly + "piece a plain 500 5 times 0;", 5, singly.length());
        says("a number after times with which there would be more than 14 pieces (at this number)");
        for (int first = 1; first <= 14; first++) {
            String start = YARN + "piece a plain 500 5 times " + first + ";";
            String next = "piece a lace 600 6 times ";
            for (int second = 1; second <= 14; second++) {
                int due = first == 14 ? start.length() : start.length() + next.length();
                if (first + second <= 14) {
                    accepted(start + next + second + ";", first + second);
                } else {
                    refused(start + next + second + ";", 5, due);
                    refused(start + next + second + "?", 5, due);
                }
            }
        }
        refused(YARN + "piece a plain 500 5;piece a plain 500 5 times 14;", 5, 57);
    }

    private static void checkFirstError() {
        says("The parser reads tokens from left to right and stops at the first token that has an error");
        refused("box 7;steam 101;?", 2, 4);
        refused("box 7 ?", 2, 4);
        refused("? box 7;", 1, 0);
        refused("yarn abcdefg 0 51;", 1, 5);
        refused("yarn a 0 51;", 2, 7);
        refused("yarn a 1 51", 2, 9);
        refused(YARN + "yarn a 0 51?", 3, 16);
        refused("piece a what 0 256 times 99", 4, 6);
        refused(YARN + "piece a what 0 256 times 99", 1, 19);
        refused(YARN + "piece a plain 0 256 times 99", 2, 25);
        refused(YARN + "piece a plain 500 256 times 99", 2, 29);
        refused(YARN + "piece a plain 500 255 times 99 99", 2, 39);
        refused("tolerance 501 256", 2, 10);
        refused("tolerance 500 256", 2, 14);
        refused("size a 10000 1", 2, 7);
        // The statements before the error were right, and still nothing of them is taken.
        HosieryPlant x = typed("steam 5;box 5;" + YARN + "piece a plain 500 5;?");
        due("load()", x.load(), HosieryPlant.PARSE_ERROR);
        same("the plant", written(x), "tolerance 30 6;steam 60;box 2;");
        due("undoCount()", x.undoCount(), 0);
    }

    private static void checkSmallestCode() {
        says("if that token has several errors, the smallest code counts");
        // Out of range, and more than 14 pieces as well.
        refused(YARN + "piece a plain 500 5;piece a plain 500 5 times 15;", 2, 57);
        refused(YARN + "piece a plain 500 5 times 15;", 2, 37);
        refused(YARN + "piece a plain 500 5 times 13;piece a plain 500 5 times 99999999999;", 2, 66);
        refused(YARN + "piece a plain 500 5 times 13;piece a plain 500 5 times 0;", 2, 66);
        // A keyword or a long word is no name, and so no known yarn either.
        refused("piece plain plain 500 5;", 1, 6);
        refused("piece abcdefg plain 500 5;", 1, 6);
        refused("piece 5 plain 500 5;", 1, 6);
        // A number that cannot stand here is also one that would be out of range.
        refused("box 2 99999;", 1, 6);
        refused("yarn 99999 5 5;", 1, 5);
    }

    /** The tokens joined by blanks, with one of them exchanged. */
    private static String exchanged(String start, String[] tokens, int index, String token) {
        StringBuilder text = new StringBuilder(start);
        for (int i = 0; i < tokens.length; i++) {
            text.append(i == index ? token : tokens[i]).append(' ');
        }
        return text.toString();
    }

    private static int offset(String start, String[] tokens, int index) {
        int offset = start.length();
        for (int i = 0; i < index; i++) {
            offset += tokens[i].length() + 1;
        }
        return offset;
    }

    private static void checkEachToken() {
        says("1 the token cannot stand here");
        String[] statements = {"tolerance 30 6 ;", "steam 60 ;", "box 2 ;", "yarn b 5 5 ;", "shape s 500 ;", "size z 500 600 ;",
                "piece a plain 500 5 ;", "piece a ribbed 500 5 ;", "piece a lace 500 5 times 3 ;"};
        for (String statement : statements) {
            String[] tokens = statement.split(" ");
            int pieces = statement.endsWith("times 3 ;") ? 3 : statement.startsWith("piece") ? 1 : 0;
            accepted(exchanged(YARN, tokens, -1, ""), pieces);
            for (int i = 0; i < tokens.length; i++) {
                int at = offset(YARN, tokens, i);
                boolean name = i == 1 && "yarn shape size piece".contains(tokens[0]);
                boolean number = Character.isDigit(tokens[i].charAt(0));
                refused(exchanged(YARN, tokens, i, "?"), 1, at);
                refused(exchanged(YARN, tokens, i, "abcdefg"), 1, at);
                refused(exchanged(YARN, tokens, i, "A"), 1, at);
                if (!number) {
                    refused(exchanged(YARN, tokens, i, "5"), 1, at);
                }
                if (!name) {
                    refused(exchanged(YARN, tokens, i, "zz"), 1, at);
                }
                // A statement that times would go on may end in its place.
                if (!tokens[i].equals(";") && !tokens[i].equals("times")) {
                    refused(exchanged(YARN, tokens, i, ";"), 1, at);
                }
                if (i > 0) {
                    refused(exchanged(YARN, tokens, i, tokens[0]), 1, at);
                }
            }
        }
        refused(YARN + "piece a plain 500 times 3;", 1, 29);
        refused(YARN + "piece a plain times 3;", 1, 25);
        refused(YARN + "piece a times 3;", 1, 19);
        refused(YARN + "piece a 500 5;", 1, 19);
        refused(YARN + "piece a plain 500 5 times 3 times 3;", 1, 39);
        refused("steam 60 times 3;", 1, 9);
    }

    private static void checkEndOfText() {
        says("for the end of the text it is the text's length");
        String[] statements = {"tolerance 30 6 ;", "steam 60 ;", "box 2 ;", "yarn b 5 5 ;", "shape s 500 ;", "size z 500 600 ;",
                "piece a plain 500 5 ;", "piece a lace 500 5 times 3 ;"};
        for (String statement : statements) {
            String[] tokens = statement.split(" ");
            for (int i = 1; i < tokens.length; i++) {
                String cut = exchanged(YARN, tokens, -1, "").substring(0, offset(YARN, tokens, i));
                refused(cut.trim(), 1, cut.length() - 1);
                refused(cut, 1, cut.length());
                refused(cut + " \n \n", 1, cut.length() + 4);
            }
        }
    }

    private static int findOf(HosieryPlant x, String content, int what) {
        type(x, content);
        return x.find(what);
    }

    private static void checkFind() {
        says("a name, which is the whole content of the input buffer");
        String text = "yarn a 5 5;yarn abcdef 5 5;shape abcdef 500;shape b 500;size c 500 500;size b 500 500;size a 500 500;";
        HosieryPlant x = accepted(text, 0);
        due("find(0) of a", findOf(x, "a", 0), 0);
        due("find(0) of abcdef", findOf(x, "abcdef", 0), 1);
        due("find(1) of abcdef", findOf(x, "abcdef", 1), 0);
        due("find(2) of a", findOf(x, "a", 2), 2);
        says("PARSE_ERROR if the content is not 1 to 6 letters a-z");
        for (String content : new String[] {"", "abcdefg", "aaaaaaaaaaaaaaaaaaaa", "a ", " a", "a\n", "a;", "a b", "1", "a1", "A", "aA", ";"}) {
            for (int what = 0; what < 3; what++) {
                due("find(" + what + ") of <" + content + ">", findOf(x, content, what), HosieryPlant.PARSE_ERROR);
                says("and empties the buffer");
                due("truncate(1)", x.truncate(1), HosieryPlant.NONE);
            }
        }
        due("find(0) of a full buffer", findOf(x, "a".repeat(1200), 0), HosieryPlant.PARSE_ERROR);
        due("truncate(1)", x.truncate(1), HosieryPlant.NONE);
        says("letters a-z");
        for (char sign = 0; sign < 256; sign++) {
            int due = isLetter(sign) ? HosieryPlant.NONE : HosieryPlant.PARSE_ERROR;
            HosieryPlant y = new HosieryPlant();
            due("find(0) of byte " + (int) sign, findOf(y, "" + sign, 0), due);
            due("find(1) of abcde and byte " + (int) sign, findOf(y, "abcde" + sign, 1), due);
        }
        says("NONE if there is none with this name");
        for (String content : "b d aa abcde abcdeg bcdef zzzzzz steam yarn".split(" ")) {
            due("find(0) of " + content, findOf(x, content, 0), HosieryPlant.NONE);
            due("truncate(1)", x.truncate(1), HosieryPlant.NONE);
        }
        says("INVALID if what is out of range (then the buffer stays)");
        for (int what : new int[] {-1, 3, Integer.MIN_VALUE, Integer.MAX_VALUE}) {
            type(x, "abcdef");
            due("find(" + what + ")", x.find(what), HosieryPlant.INVALID);
            due("truncate(7)", x.truncate(7), HosieryPlant.NONE);
            due("find(0) after it", x.find(0), 1);
            due("find(" + what + ") of nothing", x.find(what), HosieryPlant.INVALID);
            type(x, "?");
            due("find(" + what + ") of a wrong name", x.find(what), HosieryPlant.INVALID);
            due("truncate(1) after it", x.truncate(1), 1);
            x.truncate(0);
        }
        due("undoCount()", x.undoCount(), 1);
    }

    private static void checkWrite() {
        says("tolerance; steam; box (always); the yarns; the shapes; the sizes; the pieces, each by number and without times");
        HosieryPlant x = accepted(YARN + "piece a plain 500 5;", 1);
        same("the plant", written(x), "tolerance 30 6;steam 60;box 2;yarn a 5 5;piece a plain 500 5;");
        HosieryPlant y = accepted("size z 500 600;" + YARN + "piece a ribbed 500 5 times 2;shape s 700;box 1;piece a lace 9999 0;yarn b 6 6;", 3);
        same("the plant", written(y), "tolerance 30 6;steam 60;box 1;yarn a 5 5;yarn b 6 6;shape s 700;size z 500 600;"
                + "piece a ribbed 500 5;piece a ribbed 500 5;piece a lace 9999 0;");
        says("with the present settings and shades and the knitted lengths");
        x.setSteam(0);
        x.setTolerance(500, 0);
        x.dye(0, 255);
        same("the plant", written(x), "tolerance 500 0;steam 0;box 2;yarn a 5 5;piece a plain 500 255;");
        y.boardAll(0);
        y.day();
        due("inState(2)", y.inState(2), 3);
        due("length(2) has changed", y.length(2) != 9999 ? 1 : 0, 1);
        same("the knitted lengths", written(y).substring(79), "piece a ribbed 500 5;piece a ribbed 500 5;piece a lace 9999 0;");
        says("replacing its content");
        due("writePlant() of a longer plant", x.writePlant(), 63);
        x.load();
        due("writePlant() of a shorter plant", x.writePlant(), 30);
        same("the output", output(x), "tolerance 30 6;steam 60;box 2;");
    }

    private static void checkOutputByte() {
        says("NONE if index is negative or not less than the output's length");
        HosieryPlant x = new HosieryPlant();
        for (int index : new int[] {-1, 0, 1, Integer.MIN_VALUE, Integer.MAX_VALUE}) {
            due("outputByte(" + index + ") of nothing", x.outputByte(index), HosieryPlant.NONE);
        }
        due("writePlant()", x.writePlant(), 30);
        due("outputByte(0)", x.outputByte(0), 't');
        due("outputByte(29)", x.outputByte(29), ';');
        for (int index : new int[] {-1, 30, 31, 1200, Integer.MIN_VALUE, Integer.MAX_VALUE}) {
            due("outputByte(" + index + ")", x.outputByte(index), HosieryPlant.NONE);
        }
        says("Returns the byte at that index [as it was written, whatever came after]");
        x.setSteam(99);
        type(x, "box 5;");
        x.load();
        x.undo();
        type(x, "?");
        x.load();
        same("the output", output(x), "tolerance 30 6;steam 60;box 2;");
    }
}
