/** Promises 1 to 16: the buffers, the input language with its parse errors, counts, settings and find. */
public final class TextTest {
    private static int wrong = 0;

    private static void due(String call, int got, int want) {
        if (got != want) {
            wrong++;
            System.out.println(call + " answered " + got + ", due is " + want);
        }
    }

    private static void type(HosieryPlant x, String text) {
        for (int i = 0; i < text.length(); i += 20) {
            int[] words = new int[5];
            for (int j = 0; j < 20; j++) {
                int sign = i + j < text.length() ? text.charAt(i + j) : ' ';
                words[j / 4] = words[j / 4] << 8 | sign;
            }
            x.append(words[0], words[1], words[2], words[3], words[4]);
        }
        x.truncate(text.length());
    }

    private static HosieryPlant loaded(String text) {
        HosieryPlant x = new HosieryPlant();
        type(x, text);
        x.load();
        return x;
    }

    /** The text must be refused with this code at this position, and leave the plant as it was. */
    private static void refused(String text, int code, int position) {
        HosieryPlant x = loaded("yarn before 10 10;");
        type(x, text);
        due("load of <" + text + ">", x.load(), HosieryPlant.PARSE_ERROR);
        due("errorCode of <" + text + ">", x.errorCode(), code);
        due("errorPosition of <" + text + ">", x.errorPosition(), position);
        due("yarnCount after <" + text + ">", x.yarnCount(), 1);
        due("undoCount after <" + text + ">", x.undoCount(), 1);
        due("truncate(1) after <" + text + ">", x.truncate(1), HosieryPlant.NONE);
    }

    /** The text must be refused with this code at its last token, of this length. */
    private static void refusedLast(String text, int code, int tokenLength) {
        refused(text, code, text.length() - tokenLength);
        refused(text + " ; x", code, text.length() - tokenLength);
    }

    private static HosieryPlant accepted(String text, int pieces) {
        HosieryPlant x = new HosieryPlant();
        type(x, text);
        due("load of <" + text + ">", x.load(), pieces);
        due("errorCode of <" + text + ">", x.errorCode(), 0);
        due("errorPosition of <" + text + ">", x.errorPosition(), HosieryPlant.NONE);
        return x;
    }

    public static void main(String[] args) {
        checkNewObject();
        checkBuffer();
        checkExampleTwo();
        checkAccepted();
        checkTokens();
        checkWrongTokens();
        checkNameErrors();
        checkRanges();
        checkLimits();
        checkLoadReplaces();
        checkErrorsStayAndGo();
        checkCountsAndSettings();
        checkFind();
        System.exit(wrong == 0 ? 0 : 1);
    }

    private static void checkNewObject() {
        HosieryPlant x = new HosieryPlant();
        due("yarnCount()", x.yarnCount(), 0);
        due("shapeCount()", x.shapeCount(), 0);
        due("sizeCount()", x.sizeCount(), 0);
        due("pieceCount()", x.pieceCount(), 0);
        due("days()", x.days(), 0);
        due("undoCount()", x.undoCount(), 0);
        due("lengthTolerance()", x.lengthTolerance(), 30);
        due("shadeTolerance()", x.shadeTolerance(), 6);
        due("steam()", x.steam(), 60);
        due("errorCode()", x.errorCode(), 0);
        due("errorPosition()", x.errorPosition(), HosieryPlant.NONE);
        due("outputByte(0)", x.outputByte(0), HosieryPlant.NONE);
        due("truncate(0)", x.truncate(0), 0);
        due("truncate(1)", x.truncate(1), HosieryPlant.NONE);
        due("load of nothing", x.load(), 0);
    }

    private static void checkBuffer() {
        HosieryPlant x = new HosieryPlant();
        for (int i = 1; i <= 60; i++) {
            due("append", x.append(0x20202020, 0x20202020, 0x20202020, 0x20202020, 0x20202020), 20 * i);
        }
        due("append beyond 1200", x.append(0, 0, 0, 0, 0), HosieryPlant.NONE);
        due("truncate(1201)", x.truncate(1201), HosieryPlant.NONE);
        due("truncate(1200)", x.truncate(1200), 1200);
        due("truncate(-1)", x.truncate(-1), HosieryPlant.NONE);
        due("truncate(least)", x.truncate(Integer.MIN_VALUE), HosieryPlant.NONE);
        due("truncate(1181)", x.truncate(1181), 1181);
        due("append beyond 1200 by one", x.append(0, 0, 0, 0, 0), HosieryPlant.NONE);
        due("truncate(1181) still", x.truncate(1182), HosieryPlant.NONE);
        due("truncate(1180)", x.truncate(1180), 1180);
        due("append to 1200", x.append(0x20202020, 0x20202020, 0x20202020, 0x20202020, 0x20202020), 1200);
        due("load of blanks", x.load(), 0);
        due("append after load", x.append(0, 0, 0, 0, 0), 20);
        checkCut("steam", 4, 1, 0);
        checkCut("box 25", 5, 1, 5);
        checkCut("box  ;", 4, 1, 4);
        checkCut("box 2;", 5, 1, 5);
        checkCut("yarn a 100 5;", 11, 1, 11);
        x.truncate(0);
        type(x, "wool");
        x.truncate(3);
        due("find of a cut name", x.find(0), HosieryPlant.NONE);
        type(x, "yarn wool 5 5;yarn woo 5 5;");
        x.load();
        type(x, "wool");
        x.truncate(3);
        due("find of a cut name", x.find(0), 1);
        x.truncate(0);
        // Each byte of each parameter has its own place: most significant first.
        for (int place = 0; place < 20; place++) {
            for (int sign : new int[] {'!', 0, 127, 128, 255, 9, 13}) {
                int[] words = {0x20202020, 0x20202020, 0x20202020, 0x20202020, 0x20202020};
                int shift = 24 - 8 * (place % 4);
                words[place / 4] = words[place / 4] & ~(255 << shift) | sign << shift;
                HosieryPlant y = new HosieryPlant();
                y.append(words[0], words[1], words[2], words[3], words[4]);
                due("load with a wrong byte", y.load(), HosieryPlant.PARSE_ERROR);
                due("errorCode", y.errorCode(), 1);
                due("errorPosition", y.errorPosition(), place);
            }
        }
    }

    /** What was cut off must not be read: the shorter text is refused with this code at this position. */
    private static void checkCut(String text, int length, int code, int position) {
        HosieryPlant x = new HosieryPlant();
        type(x, text);
        due("truncate of <" + text + ">", x.truncate(length), length);
        due("load of a cut <" + text + ">", x.load(), HosieryPlant.PARSE_ERROR);
        due("errorCode of a cut <" + text + ">", x.errorCode(), code);
        due("errorPosition of a cut <" + text + ">", x.errorPosition(), position);
        // Nor may what stood in the buffer before it was emptied.
        type(x, text);
        x.load();
        due("load of nothing after <" + text + ">", x.load(), 0);
        type(x, text.substring(0, length));
        due("load again", x.load(), HosieryPlant.PARSE_ERROR);
        due("errorPosition again", x.errorPosition(), position);
    }

    private static void checkExampleTwo() {
        HosieryPlant x = new HosieryPlant();
        due("append", x.append(2036429422, 543236147, 807416368, 997222757, 1667571810), 20);
        due("append", x.append(544238689, 1768824886, 808460337, 991961120, 538976288), 40);
        due("truncate(33)", x.truncate(33), 33);
        due("load()", x.load(), -4);
        due("errorCode()", x.errorCode(), 4);
        due("errorPosition()", x.errorPosition(), 19);
    }

    private static void checkAccepted() {
        accepted("", 0);
        accepted(" \n \n", 0);
        accepted("tolerance 0 0;steam 0;box 1;", 0);
        accepted("tolerance 500 255;steam 100;box 6;", 0);
        accepted("yarn a 1 0;yarn b 100 50;", 0);
        accepted("shape a 500;shape b 9999;", 0);
        accepted("size a 500 500;size b 9999 9999;size c 500 9999;", 0);
        accepted("yarn a 1 0;shape a 500;size a 500 500;", 0);
        accepted("yarn a 1 0;piece a plain 500 0;piece a ribbed 9999 255;piece a lace 700 7;", 3);
        accepted("yarn abcdef 1 0;piece abcdef plain 500 0 times 1;", 1);
        accepted("yarn a 1 0;piece a plain 500 0 times 14;", 14);
        accepted("yarn a 1 0;piece a plain 500 0 times 9;box 3;piece a plain 500 0 times 5;", 14);
        accepted("yarn a 1 0;box 2;yarn b 1 0;piece b lace 500 0;tolerance 1 1;piece a plain 500 0;steam 5;", 2);
        accepted("yarn time 1 0;", 0);
        accepted("yarn pieces 1 0;piece pieces plain 600 6;", 1);
    }

    private static void checkTokens() {
        HosieryPlant x = accepted("tolerance12 007;steam00000000000000000000055;box\n4\n;yarn a1 2;piece a plain500 3times4;", 4);
        due("lengthTolerance()", x.lengthTolerance(), 12);
        due("shadeTolerance()", x.shadeTolerance(), 7);
        due("steam()", x.steam(), 55);
        due("stretchLimit(3)", x.stretchLimit(3), 1);
        due("knitted(3)", x.knitted(3), 500);
        refusedLast("steam 5 5", 1, 1);
        refusedLast("steam -", 1, 1);
        refusedLast("steam\t", 1, 1);
        refusedLast("steam 5\r", 1, 1);
        refusedLast("Yarn", 1, 4);
        refused("yarn A 5 5;", 1, 5);
        refused("yarn a 5 5;;", 1, 11);
        refused("steam 5", 1, 7);
        refused("steam 5  \n ", 1, 11);
        refused("steam", 1, 5);
        refused("steam \n", 1, 7);
        refused("steam 5;\n box 7;", 2, 14);
    }

    private static void checkWrongTokens() {
        for (String word : new String[] {"plain", "ribbed", "lace", "times", "boxes", "a", ";", "7", "pieces", "yarnyarn"}) {
            refused(word, 1, 0);
        }
        refusedLast("tolerance a", 1, 1);
        refusedLast("tolerance 1 a", 1, 1);
        refusedLast("tolerance 1;", 1, 1);
        refusedLast("tolerance 1 1 1", 1, 1);
        refusedLast("steam steam", 1, 5);
        refusedLast("box ;", 1, 1);
        refusedLast("box 1 box", 1, 3);
        refusedLast("yarn 7", 1, 1);
        refusedLast("yarn ;", 1, 1);
        refusedLast("yarn a b", 1, 1);
        refusedLast("yarn a 5 b", 1, 1);
        refusedLast("yarn a 5 5 5", 1, 1);
        refusedLast("shape a ;", 1, 1);
        refusedLast("shape a 500 600", 1, 3);
        refusedLast("size a a", 1, 1);
        refusedLast("size a 500 a", 1, 1);
        refusedLast("size a 500;", 1, 1);
        refusedLast("size a 500 600 times", 1, 5);
        String yarn = "yarn a 5 5;";
        refusedLast(yarn + "piece 7", 1, 1);
        refusedLast(yarn + "piece ;", 1, 1);
        refusedLast(yarn + "piece a a", 1, 1);
        refusedLast(yarn + "piece a yarn", 1, 4);
        refusedLast(yarn + "piece a plains", 1, 6);
        refusedLast(yarn + "piece a plain lace", 1, 4);
        refusedLast(yarn + "piece a plain 500 a", 1, 1);
        refusedLast(yarn + "piece a plain 500 5 5", 1, 1);
        refusedLast(yarn + "piece a plain 500 5 time", 1, 4);
        refusedLast(yarn + "piece a plain 500 5 times;", 1, 1);
        refusedLast(yarn + "piece a plain 500 5 times times", 1, 5);
        refusedLast(yarn + "piece a plain 500 5 times 5 times", 1, 5);
        // The end of the text is a wrong token as well.
        refused(yarn + "piece a plain 500 5 times 5", 1, yarn.length() + 27);
        refused(yarn + "piece a plain 500 5 times ", 1, yarn.length() + 26);
    }

    private static void checkNameErrors() {
        for (String keyword : "tolerance steam box yarn shape size piece plain ribbed lace times".split(" ")) {
            refusedLast("yarn " + keyword, 1, keyword.length());
            refusedLast("shape " + keyword, 1, keyword.length());
            refusedLast("size " + keyword, 1, keyword.length());
            refusedLast("piece " + keyword, 1, keyword.length());
        }
        refusedLast("yarn abcdefg", 1, 7);
        refusedLast("shape abcdefg", 1, 7);
        refusedLast("size abcdefg", 1, 7);
        refusedLast("yarn abcdef 1 1;piece abcdefg", 1, 7);
        refusedLast("yarn a 1 1;yarn b 1 1;yarn a", 3, 1);
        refusedLast("shape ab 500;shape ab", 3, 2);
        refusedLast("size abcdef 500 500;size abcdef", 3, 6);
        accepted("yarn a 1 1;yarn aa 1 1;yarn ab 1 1;yarn b 1 1;yarn abcdef 1 1;yarn abcdeg 1 1;", 0);
        refusedLast("tolerance 1 1;tolerance", 3, 9);
        refusedLast("steam 1;steam", 3, 5);
        refusedLast("box 1;box", 3, 3);
        refusedLast("tolerance 1 1;steam 1;box 1;yarn a 1 1;tolerance", 3, 9);
        refusedLast("piece a", 4, 1);
        refusedLast("yarn a 1 1;piece b", 4, 1);
        refusedLast("shape a 500;size a 500 500;piece a", 4, 1);
        refused("piece a plain 500 1;yarn a 1 1;", 4, 6);
    }

    private static void checkRanges() {
        refusedLast("tolerance 501", 2, 3);
        refusedLast("tolerance 500 256", 2, 3);
        refusedLast("tolerance 4294967297", 2, 10);
        refusedLast("tolerance 99999999999999999999999999999999999999", 2, 38);
        refusedLast("steam 101", 2, 3);
        refusedLast("box 0", 2, 1);
        refusedLast("box 7", 2, 1);
        refusedLast("yarn a 0", 2, 1);
        refusedLast("yarn a 101", 2, 3);
        refusedLast("yarn a 1 51", 2, 2);
        refusedLast("shape a 499", 2, 3);
        refusedLast("shape a 10000", 2, 5);
        refusedLast("size a 499", 2, 3);
        refusedLast("size a 10000", 2, 5);
        refusedLast("size a 500 499", 2, 3);
        refusedLast("size a 700 699", 2, 3);
        refusedLast("size a 700 10000", 2, 5);
        String yarn = "yarn a 1 1;";
        refusedLast(yarn + "piece a plain 499", 2, 3);
        refusedLast(yarn + "piece a plain 10000", 2, 5);
        refusedLast(yarn + "piece a plain 500 256", 2, 3);
        refusedLast(yarn + "piece a plain 500 255 times 0", 2, 1);
        refusedLast(yarn + "piece a plain 500 255 times 15", 2, 2);
        refusedLast(yarn + "piece a plain 500 255;piece a plain 500 255 times 15", 2, 2);
        refusedLast(yarn + "piece a plain 500 255;piece a plain 500 255 times 0", 2, 1);
    }

    private static void checkLimits() {
        String yarns = "yarn a 1 1;yarn b 1 1;yarn c 1 1;yarn d 1 1;yarn e 1 1;yarn f 1 1;";
        due("yarnCount()", accepted(yarns, 0).yarnCount(), 6);
        refusedLast(yarns + "yarn", 5, 4);
        refused(yarns + "yarn a 1 1;", 5, yarns.length());
        String shapes = "shape a 500;shape b 500;shape c 500;shape d 500;shape e 500;shape f 500;shape g 500;shape h 500;";
        due("shapeCount()", accepted(shapes, 0).shapeCount(), 8);
        refusedLast(shapes + "shape", 5, 5);
        String sizes = "size a 500 500;size b 500 500;size c 500 500;size d 500 500;size e 500 500;size f 500 500;";
        due("sizeCount()", accepted(sizes, 0).sizeCount(), 6);
        refusedLast(sizes + "size", 5, 4);
        String pieces = "yarn a 1 1;piece a plain 500 5 times 14;";
        refusedLast(pieces + "piece", 5, 5);
        refusedLast("yarn a 1 1;piece a plain 500 5 times 13;piece a plain 500 5 times 2", 5, 1);
        refusedLast("yarn a 1 1;piece a plain 500 5;piece a plain 500 5 times 14", 5, 2);
        accepted("yarn a 1 1;piece a plain 500 5 times 13;piece a plain 500 5 times 1;", 14);
    }

    private static void checkLoadReplaces() {
        HosieryPlant x = accepted("tolerance 5 5;steam 5;box 5;yarn a 5 5;shape s 600;size z 500 900;piece a plain 600 5;", 1);
        x.board(0, 0);
        x.day();
        type(x, "yarn b 7 7; piece b lace 700 7 times 2;");
        due("load()", x.load(), 2);
        due("days()", x.days(), 0);
        due("shapeCount()", x.shapeCount(), 0);
        due("sizeCount()", x.sizeCount(), 0);
        due("lengthTolerance()", x.lengthTolerance(), 30);
        due("shadeTolerance()", x.shadeTolerance(), 6);
        due("steam()", x.steam(), 60);
        due("state(0)", x.state(0), 0);
        due("length(0)", x.length(0), 700);
        due("pieceCount()", x.pieceCount(), 2);
        due("load of the emptied buffer", x.load(), 0);
        due("pieceCount()", x.pieceCount(), 0);
    }

    private static void checkErrorsStayAndGo() {
        HosieryPlant x = new HosieryPlant();
        type(x, "  box 9;");
        x.load();
        due("errorCode()", x.errorCode(), 2);
        due("errorPosition()", x.errorPosition(), 6);
        x.append(0, 0, 0, 0, 0);
        x.find(0);
        x.day();
        x.undo();
        due("errorCode() stays", x.errorCode(), 2);
        due("errorPosition() stays", x.errorPosition(), 6);
        x.load();
        due("errorCode() goes", x.errorCode(), 0);
        due("errorPosition() goes", x.errorPosition(), HosieryPlant.NONE);
    }

    private static void checkCountsAndSettings() {
        HosieryPlant x = accepted("yarn a 1 1;yarn b 1 1;shape s 500;shape t 600;shape u 700;size z 500 600;"
                + "piece a plain 500 5 times 3;piece b lace 500 5;tolerance 77 88;steam 99;", 4);
        due("yarnCount()", x.yarnCount(), 2);
        due("shapeCount()", x.shapeCount(), 3);
        due("sizeCount()", x.sizeCount(), 1);
        due("pieceCount()", x.pieceCount(), 4);
        due("lengthTolerance()", x.lengthTolerance(), 77);
        due("shadeTolerance()", x.shadeTolerance(), 88);
        due("steam()", x.steam(), 99);
        due("undoCount()", x.undoCount(), 1);
        due("days()", x.days(), 0);
        x.day();
        x.day();
        due("days()", x.days(), 2);
        due("undoCount()", x.undoCount(), 3);
    }

    private static int findIn(HosieryPlant x, String name, int what) {
        x.truncate(0);
        type(x, name);
        return x.find(what);
    }

    private static void checkFind() {
        HosieryPlant x = accepted("yarn a 1 1;yarn wool 1 1;shape wool 500;shape abcdef 600;size a 500 600;size b 500 600;size wool 500 600;", 0);
        due("find wool", findIn(x, "wool", 0), 1);
        due("find wool", findIn(x, "wool", 1), 0);
        due("find wool", findIn(x, "wool", 2), 2);
        due("find abcdef", findIn(x, "abcdef", 1), 1);
        due("find abcdef", findIn(x, "abcdef", 0), HosieryPlant.NONE);
        due("find a", findIn(x, "a", 1), HosieryPlant.NONE);
        due("find b", findIn(x, "b", 2), 1);
        due("find steam", findIn(x, "steam", 0), HosieryPlant.NONE);
        due("find abcdefg", findIn(x, "abcdefg", 1), HosieryPlant.PARSE_ERROR);
        due("find nothing", findIn(x, "", 1), HosieryPlant.PARSE_ERROR);
        due("find with a blank", findIn(x, "wool ", 0), HosieryPlant.PARSE_ERROR);
        due("find with a blank", findIn(x, " wool", 0), HosieryPlant.PARSE_ERROR);
        due("find a digit", findIn(x, "wool1", 0), HosieryPlant.PARSE_ERROR);
        due("find a capital", findIn(x, "Wool", 0), HosieryPlant.PARSE_ERROR);
        due("find a brace", findIn(x, "woo{", 0), HosieryPlant.PARSE_ERROR);
        due("find a backquote", findIn(x, "woo`", 0), HosieryPlant.PARSE_ERROR);
        due("the buffer is empty", x.truncate(1), HosieryPlant.NONE);
        type(x, "wool");
        for (int what : new int[] {-1, 3, Integer.MIN_VALUE, Integer.MAX_VALUE}) {
            due("find(" + what + ")", x.find(what), HosieryPlant.INVALID);
        }
        due("the buffer stays", x.truncate(4), 4);
        due("find(0)", x.find(0), 1);
        due("the buffer is empty", x.truncate(1), HosieryPlant.NONE);
        due("undoCount()", x.undoCount(), 1);
        due("errorCode()", x.errorCode(), 0);
    }
}
