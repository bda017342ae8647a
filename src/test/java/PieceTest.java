/** Promises 17 to 36, 63 and 65: single pieces, boarding, days, dyeing and the settings. */
public final class PieceTest {
    private static final String PLANT = "yarn wool 25 10;yarn silk 8 3;shape s 2200;shape m 2400;shape l 3000;"
            + "size a 1900 2100;size b 2050 2300;size c 2050 9999;"
            + "piece wool plain 2000 10;piece wool ribbed 2000 12 times 2;piece wool lace 2100 200;"
            + "piece silk lace 2040 0;piece silk plain 1999 10;";
    private static int wrong = 0;

    private static void due(String call, int got, int want) {
        if (got != want) {
            wrong++;
            System.out.println(call + " answered " + got + ", due is " + want);
        }
    }

    private static HosieryPlant loaded(String text) {
        HosieryPlant x = new HosieryPlant();
        for (int i = 0; i < text.length(); i += 20) {
            int[] words = new int[5];
            for (int j = 0; j < 20; j++) {
                int sign = i + j < text.length() ? text.charAt(i + j) : ' ';
                words[j / 4] = words[j / 4] << 8 | sign;
            }
            x.append(words[0], words[1], words[2], words[3], words[4]);
        }
        x.truncate(text.length());
        x.load();
        return x;
    }

    public static void main(String[] args) {
        checkExampleThree();
        checkPieces();
        checkWrongPieces();
        checkSets();
        checkStretch();
        checkSizes();
        checkSorted();
        checkIfBoarded();
        checkBoard();
        checkBoardAll();
        checkDay();
        checkLengthRange();
        checkDye();
        checkSettings();
        checkShapeFor();
        System.exit(wrong == 0 ? 0 : 1);
    }

    private static void checkExampleThree() {
        HosieryPlant x = new HosieryPlant();
        due("append", x.append(2036429422, 543236145, 807415867, 1936220528, 1696622112), 20);
        due("append", x.append(842281008, 997222757, 1667571809, 543973731, 1696608816), 40);
        due("append", x.append(808460345, 991961120, 538976288, 538976288, 538976288), 60);
        due("truncate(45)", x.truncate(45), 45);
        due("load()", x.load(), 1);
        due("longestShape(0)", x.longestShape(0), 2020);
        due("board(0, 0)", x.board(0, 0), 2);
        due("seconds()", x.seconds(), 1);
    }

    private static void checkPieces() {
        HosieryPlant x = loaded(PLANT);
        due("pieceCount()", x.pieceCount(), 6);
        int[] lengths = {2000, 2000, 2000, 2100, 2040, 1999};
        int[] shades = {10, 12, 12, 200, 0, 10};
        int[] yarns = {0, 0, 0, 0, 1, 1};
        int[] kinds = {0, 1, 1, 2, 2, 0};
        for (int i = 0; i < 6; i++) {
            due("length(" + i + ")", x.length(i), lengths[i]);
            due("knitted(" + i + ")", x.knitted(i), lengths[i]);
            due("shade(" + i + ")", x.shade(i), shades[i]);
            due("yarnOf(" + i + ")", x.yarnOf(i), yarns[i]);
            due("kindOf(" + i + ")", x.kindOf(i), kinds[i]);
            due("state(" + i + ")", x.state(i), 0);
        }
        x.board(0, 1);
        due("length(0) after boarding", x.length(0), 2240);
        due("knitted(0) after boarding", x.knitted(0), 2000);
    }

    private static void checkWrongPieces() {
        HosieryPlant x = loaded(PLANT);
        for (int piece : new int[] {-1, 6, 14, 32, Integer.MIN_VALUE, Integer.MAX_VALUE}) {
            String wrongPiece = " of the piece " + piece;
            due("length" + wrongPiece, x.length(piece), HosieryPlant.INVALID);
            due("knitted" + wrongPiece, x.knitted(piece), HosieryPlant.INVALID);
            due("shade" + wrongPiece, x.shade(piece), HosieryPlant.INVALID);
            due("yarnOf" + wrongPiece, x.yarnOf(piece), HosieryPlant.INVALID);
            due("kindOf" + wrongPiece, x.kindOf(piece), HosieryPlant.INVALID);
            due("state" + wrongPiece, x.state(piece), HosieryPlant.INVALID);
            due("stretchLimit" + wrongPiece, x.stretchLimit(piece), HosieryPlant.INVALID);
            due("longestShape" + wrongPiece, x.longestShape(piece), HosieryPlant.INVALID);
            due("sizeOf" + wrongPiece, x.sizeOf(piece), HosieryPlant.INVALID);
            due("ifBoarded" + wrongPiece, x.ifBoarded(piece, 0), HosieryPlant.INVALID);
            due("board" + wrongPiece, x.board(piece, 0), HosieryPlant.INVALID);
            due("dye" + wrongPiece, x.dye(piece, 0), HosieryPlant.INVALID);
            due("shapeFor" + wrongPiece, x.shapeFor(piece, 2000), HosieryPlant.INVALID);
        }
        due("undoCount()", x.undoCount(), 1);
    }

    private static void checkSets() {
        HosieryPlant x = loaded(PLANT);
        due("inState(0)", x.inState(0), 63);
        due("inState(1)", x.inState(1), 0);
        x.board(2, 0);
        x.board(4, 2);
        due("inState(0)", x.inState(0), 43);
        due("inState(1)", x.inState(1), 4);
        due("inState(2)", x.inState(2), 16);
        due("inState(3)", x.inState(3), 0);
        due("inState(-1)", x.inState(-1), HosieryPlant.INVALID);
        due("inState(4)", x.inState(4), HosieryPlant.INVALID);
        due("ofYarn(0)", x.ofYarn(0), 15);
        due("ofYarn(1)", x.ofYarn(1), 48);
        due("ofYarn(2)", x.ofYarn(2), HosieryPlant.INVALID);
        due("ofYarn(-1)", x.ofYarn(-1), HosieryPlant.INVALID);
    }

    private static void checkStretch() {
        HosieryPlant x = loaded(PLANT + "yarn firm 10 0;yarn soft 11 0;piece firm lace 999 0;piece soft lace 999 0;piece soft ribbed 999 0;");
        int[] limits = {25, 45, 45, 15, 1, 8, 1, 1, 31};
        int[] longest = {2500, 2900, 2900, 2415, 2060, 2158, 1008, 1008, 1308};
        for (int i = 0; i < limits.length; i++) {
            due("stretchLimit(" + i + ")", x.stretchLimit(i), limits[i]);
            due("longestShape(" + i + ")", x.longestShape(i), longest[i]);
        }
        x.board(0, 1);
        due("longestShape(0) of the length now", x.longestShape(0), 2800);
        HosieryPlant y = loaded("yarn a 12 0;yarn b 100 0;piece a lace 1000 0;piece b ribbed 9999 0;");
        due("stretchLimit(0)", y.stretchLimit(0), 2);
        due("stretchLimit(1)", y.stretchLimit(1), 120);
        due("longestShape(1)", y.longestShape(1), 21997);
    }

    private static void checkSizes() {
        HosieryPlant x = loaded(PLANT + "piece wool plain 1900 0;piece wool plain 2101 0;piece wool plain 1899 0;piece wool plain 2300 0;piece wool plain 2301 0;");
        int[] sizes = {0, 0, 0, 0, 0, 0, 0, 1, HosieryPlant.NONE, 1, 2};
        for (int i = 0; i < sizes.length; i++) {
            due("sizeOf(" + i + ")", x.sizeOf(i), sizes[i]);
        }
        due("ofSize(0)", x.ofSize(0), 127);
        due("ofSize(1)", x.ofSize(1), 1 << 7 | 1 << 9);
        due("ofSize(2)", x.ofSize(2), 1 << 10);
        due("ofSize(3)", x.ofSize(3), HosieryPlant.INVALID);
        due("ofSize(-1)", x.ofSize(-1), HosieryPlant.INVALID);
        x.board(0, 1);
        due("sizeOf(0) after boarding", x.sizeOf(0), 1);
    }

    private static void checkSorted() {
        HosieryPlant x = loaded(PLANT);
        int[] order = {5, 0, 1, 2, 4, 3};
        for (int i = 0; i < 6; i++) {
            due("sorted(" + i + ")", x.sorted(i), order[i]);
        }
        due("sorted(6)", x.sorted(6), HosieryPlant.NONE);
        due("sorted(greatest)", x.sorted(Integer.MAX_VALUE), HosieryPlant.NONE);
        due("sorted(-1)", x.sorted(-1), HosieryPlant.INVALID);
        x.dye(0, 13);
        due("sorted(1) by shade", x.sorted(1), 1);
        due("sorted(3) by shade", x.sorted(3), 0);
        x.board(1, 1);
        due("sorted(4) by length", x.sorted(4), 3);
        due("sorted(5) by length", x.sorted(5), 1);
        due("sorted(0) of none", new HosieryPlant().sorted(0), HosieryPlant.NONE);
    }

    private static void checkIfBoarded() {
        HosieryPlant x = loaded(PLANT);
        due("ifBoarded(0, 0)", x.ifBoarded(0, 0), 2120);
        due("ifBoarded(0, 1)", x.ifBoarded(0, 1), 2240);
        due("ifBoarded(0, 2)", x.ifBoarded(0, 2), HosieryPlant.NONE);
        due("ifBoarded(0, 3)", x.ifBoarded(0, 3), HosieryPlant.INVALID);
        due("ifBoarded(0, -1)", x.ifBoarded(0, -1), HosieryPlant.INVALID);
        due("ifBoarded(5, 0)", x.ifBoarded(5, 0), HosieryPlant.NONE);
        due("state(5)", x.state(5), 0);
        due("length(0)", x.length(0), 2000);
        due("undoCount()", x.undoCount(), 1);
        x.board(0, 2);
        due("ifBoarded of a torn piece", x.ifBoarded(0, 0), HosieryPlant.WRONG_STATE);
        due("ifBoarded of a torn piece, wrong shape", x.ifBoarded(0, 3), HosieryPlant.INVALID);
        // Quotients are rounded towards 0, upwards and downwards alike.
        HosieryPlant y = loaded("steam 33;yarn a 1 0;shape s 1000;piece a plain 1010 0;piece a plain 991 0;");
        due("ifBoarded(0, 0)", y.ifBoarded(0, 0), 1007);
        due("ifBoarded(1, 0)", y.ifBoarded(1, 0), 993);
        y.setSteam(0);
        due("ifBoarded(0, 0) without steam", y.ifBoarded(0, 0), 1010);
        y.setSteam(100);
        due("ifBoarded(0, 0) with all steam", y.ifBoarded(0, 0), 1000);
        // A shape as long as the piece's reach does not tear it, the next longer one does.
        HosieryPlant z = loaded("yarn a 1 0;shape s 1010;shape t 1011;piece a plain 1000 0;");
        due("ifBoarded at the reach", z.ifBoarded(0, 0), 1006);
        due("ifBoarded beyond the reach", z.ifBoarded(0, 1), HosieryPlant.NONE);
    }

    private static void checkBoard() {
        HosieryPlant x = loaded(PLANT);
        due("board(0, 1)", x.board(0, 1), 1);
        due("length(0)", x.length(0), 2240);
        due("undoCount()", x.undoCount(), 2);
        due("board(0, 0) from the new length", x.board(0, 0), 1);
        due("length(0)", x.length(0), 2216);
        due("board(0, 2)", x.board(0, 2), 2);
        due("length(0) of a torn piece", x.length(0), 2216);
        due("undoCount()", x.undoCount(), 4);
        due("board(0, 0) of a torn piece", x.board(0, 0), HosieryPlant.WRONG_STATE);
        due("board(0, 3)", x.board(0, 3), HosieryPlant.INVALID);
        due("board(1, -1)", x.board(1, -1), HosieryPlant.INVALID);
        due("undoCount()", x.undoCount(), 4);
        due("setSteam(0)", x.setSteam(0), 60);
        due("board(1, 0) changes the state", x.board(1, 0), 1);
        due("undoCount()", x.undoCount(), 6);
        due("board(1, 0) changes nothing", x.board(1, 0), 1);
        due("undoCount()", x.undoCount(), 6);
        HosieryPlant y = loaded("box 1;yarn a 9 9;shape s 600;size z 500 900;piece a plain 600 5 times 2;");
        y.boardAll(0);
        due("pack()", y.pack(), 1);
        due("board of a packed piece", y.board(0, 0), HosieryPlant.WRONG_STATE);
        due("ifBoarded of a packed piece", y.ifBoarded(0, 0), HosieryPlant.WRONG_STATE);
        due("shapeFor of a packed piece", y.shapeFor(0, 600), HosieryPlant.WRONG_STATE);
    }

    private static void checkBoardAll() {
        HosieryPlant x = loaded(PLANT);
        due("boardAll(-1)", x.boardAll(-1), HosieryPlant.INVALID);
        due("boardAll(3)", x.boardAll(3), HosieryPlant.INVALID);
        x.board(0, 0);
        due("boardAll(1)", x.boardAll(1), 3);
        due("length(0) of one boarded before", x.length(0), 2120);
        due("length(1)", x.length(1), 2240);
        due("inState(1)", x.inState(1), 15);
        due("inState(2)", x.inState(2), 48);
        due("undoCount()", x.undoCount(), 3);
        due("boardAll(1) again", x.boardAll(1), HosieryPlant.NONE);
        due("undoCount()", x.undoCount(), 3);
        HosieryPlant y = loaded("yarn a 1 0;shape s 2000;piece a plain 1000 0 times 2;");
        due("boardAll(0) that tears all", y.boardAll(0), 0);
        due("inState(2)", y.inState(2), 3);
        due("undoCount()", y.undoCount(), 2);
    }

    private static void checkDay() {
        HosieryPlant x = loaded(PLANT);
        due("day() with raw pieces", x.day(), 0);
        due("days()", x.days(), 1);
        due("undoCount()", x.undoCount(), 2);
        x.boardAll(1);
        due("day()", x.day(), 4);
        due("length(0)", x.length(0), 2216);
        due("length(3)", x.length(3), 2262);
        due("length(4) of a torn piece", x.length(4), 2040);
        due("day()", x.day(), 4);
        due("length(0)", x.length(0), 2195);
        due("knitted(0)", x.knitted(0), 2000);
        // Quotients are rounded towards 0, for shrunken pieces too.
        HosieryPlant y = loaded("steam 100;yarn a 50 15;shape s 980;shape t 1020;shape u 1006;piece a plain 1000 0 times 3;");
        y.board(0, 0);
        y.board(1, 1);
        y.board(2, 2);
        due("day()", y.day(), 2);
        due("length(0)", y.length(0), 983);
        due("length(1)", y.length(1), 1017);
        due("length(2)", y.length(2), 1006);
        due("days()", y.days(), 1);
    }

    private static void checkLengthRange() {
        HosieryPlant x = loaded(PLANT);
        due("lengthRange() of raw pieces", x.lengthRange(), HosieryPlant.NONE);
        x.board(0, 1);
        due("lengthRange() of one", x.lengthRange(), 0);
        x.board(3, 1);
        due("lengthRange() of two", x.lengthRange(), 40);
        x.board(1, 0);
        due("lengthRange() of three", x.lengthRange(), 160);
        x.board(3, 2);
        due("lengthRange() without the torn one", x.lengthRange(), 120);
        due("lengthRange() of none", new HosieryPlant().lengthRange(), HosieryPlant.NONE);
    }

    private static void checkDye() {
        HosieryPlant x = loaded(PLANT);
        due("dye(0, 255)", x.dye(0, 255), 10);
        due("shade(0)", x.shade(0), 255);
        due("undoCount()", x.undoCount(), 2);
        due("dye(0, 255) changes nothing", x.dye(0, 255), 255);
        due("undoCount()", x.undoCount(), 2);
        due("dye(0, 256)", x.dye(0, 256), HosieryPlant.INVALID);
        due("dye(0, -1)", x.dye(0, -1), HosieryPlant.INVALID);
        due("dye(0, 0)", x.dye(0, 0), 255);
        x.board(0, 2);
        due("dye of a torn piece", x.dye(0, 9), 0);
        HosieryPlant y = loaded("box 1;yarn a 9 9;shape s 600;size z 500 900;piece a plain 600 5 times 2;");
        y.boardAll(0);
        due("dye of a boarded piece", y.dye(1, 6), 5);
        y.pack();
        due("dye of a packed piece", y.dye(1, 7), HosieryPlant.WRONG_STATE);
        due("dye of a packed piece, the same shade", y.dye(1, 6), HosieryPlant.WRONG_STATE);
        due("dye of a packed piece, wrong shade", y.dye(1, 256), HosieryPlant.INVALID);
        due("shade(1)", y.shade(1), 6);
    }

    private static void checkSettings() {
        HosieryPlant x = new HosieryPlant();
        due("setTolerance(0, 0)", x.setTolerance(0, 0), 30);
        due("setTolerance(500, 255)", x.setTolerance(500, 255), 0);
        due("lengthTolerance()", x.lengthTolerance(), 500);
        due("shadeTolerance()", x.shadeTolerance(), 255);
        due("setTolerance(501, 0)", x.setTolerance(501, 0), HosieryPlant.INVALID);
        due("setTolerance(-1, 0)", x.setTolerance(-1, 0), HosieryPlant.INVALID);
        due("setTolerance(0, 256)", x.setTolerance(0, 256), HosieryPlant.INVALID);
        due("setTolerance(0, -1)", x.setTolerance(0, -1), HosieryPlant.INVALID);
        due("undoCount()", x.undoCount(), 2);
        due("setTolerance changes nothing", x.setTolerance(500, 255), 500);
        due("undoCount()", x.undoCount(), 2);
        due("setTolerance changes the shade's", x.setTolerance(500, 254), 500);
        due("setTolerance changes the length's", x.setTolerance(499, 254), 500);
        due("undoCount()", x.undoCount(), 4);
        due("setSteam(0)", x.setSteam(0), 60);
        due("setSteam(0)", x.setSteam(0), 0);
        due("undoCount()", x.undoCount(), 5);
        due("setSteam(100)", x.setSteam(100), 0);
        due("setSteam(101)", x.setSteam(101), HosieryPlant.INVALID);
        due("setSteam(-1)", x.setSteam(-1), HosieryPlant.INVALID);
        due("steam()", x.steam(), 100);
        due("undoCount()", x.undoCount(), 6);
    }

    private static void checkShapeFor() {
        HosieryPlant x = loaded("steam 50;yarn a 20 0;shape p 1100;shape q 1000;shape r 1100;shape s 1300;shape t 900;piece a plain 1000 0 times 2;");
        due("shapeFor(0, 1000)", x.shapeFor(0, 1000), 1);
        due("shapeFor(0, 1026)", x.shapeFor(0, 1026), 0);
        due("shapeFor(0, 1025)", x.shapeFor(0, 1025), 0);
        due("shapeFor(0, 1024)", x.shapeFor(0, 1024), 1);
        due("shapeFor(0, 9999)", x.shapeFor(0, 9999), 0);
        due("shapeFor(0, 500)", x.shapeFor(0, 500), 4);
        due("shapeFor(0, 499)", x.shapeFor(0, 499), HosieryPlant.INVALID);
        due("shapeFor(0, 10000)", x.shapeFor(0, 10000), HosieryPlant.INVALID);
        due("state(0)", x.state(0), 0);
        x.board(0, 3);
        due("shapeFor of a torn piece", x.shapeFor(0, 1000), HosieryPlant.WRONG_STATE);
        due("shapeFor of a torn piece, wrong length", x.shapeFor(0, 499), HosieryPlant.INVALID);
        x.board(1, 0);
        due("shapeFor of a boarded piece", x.shapeFor(1, 1050), 0);
        HosieryPlant y = loaded("yarn a 20 0;shape s 2000;piece a plain 1000 0;");
        due("shapeFor that tears on all", y.shapeFor(0, 1000), HosieryPlant.NONE);
        HosieryPlant z = loaded("yarn a 20 0;piece a plain 1000 0;");
        due("shapeFor without shapes", z.shapeFor(0, 1000), HosieryPlant.NONE);
    }
}
