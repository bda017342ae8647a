/**
 * The boundaries of sections 2 to 6 and of promises 17 to 58 and 61 to 65: each test bears the words of
 * the document that it holds the program to. The ranges of the parameters are in RangeTest.
 */
public final class PlantEdgeTest {
    // Without steam a boarded piece keeps its length; shape 0 tears none, shape 1 all that are shorter.
    private static final String KEEP = "steam 0;shape s 500;shape t 9999;yarn a 10 0;yarn b 10 0;";
    private static final int NONE = HosieryPlant.NONE;
    private static final int WRONG_STATE = HosieryPlant.WRONG_STATE;
    private static int wrong = 0;
    private static String words = "";

    private static void says(String sentence) {
        words = sentence;
    }

    private static void due(String call, int got, int want) {
        if (got != want) {
            wrong++;
            System.out.println("\"" + words + "\": " + call + " answered " + got + ", due is " + want);
        }
    }

    private static void same(String what, String got, String want) {
        if (!got.equals(want)) {
            wrong++;
            System.out.println("\"" + words + "\": " + what + " is <" + got + ">, due is <" + want + ">");
        }
    }

    private static void type(HosieryPlant x, String text) {
        for (int i = 0; i < text.length(); i += 20) {
            int[] fours = new int[5];
            for (int j = 0; j < 20; j++) {
                int sign = i + j < text.length() ? text.charAt(i + j) : ' ';
                fours[j / 4] = fours[j / 4] << 8 | sign;
            }
            x.append(fours[0], fours[1], fours[2], fours[3], fours[4]);
        }
        x.truncate(text.length());
    }

    private static HosieryPlant loaded(String text) {
        HosieryPlant x = new HosieryPlant();
        type(x, text);
        if (x.load() < 0) {
            due("errorCode() of <" + text + ">", x.errorCode(), 0);
        }
        return x;
    }

    /** All pieces boarded, each with the length that it was knitted with. */
    private static HosieryPlant boarded(String text) {
        HosieryPlant x = loaded(KEEP + text);
        x.boardAll(0);
        return x;
    }

    /** A plant whose pieces 0 to 3 are raw, boarded, torn and packed, 3 with 4, and 5 boarded; all alike. */
    private static HosieryPlant mixed() {
        HosieryPlant x = loaded(KEEP + "box 1;size z 500 9999;piece a plain 1000 100 times 6;");
        x.board(3, 0);
        x.board(4, 0);
        x.pack();
        x.board(2, 1);
        x.board(1, 0);
        x.board(5, 0);
        return x;
    }

    private static String look(HosieryPlant x) {
        StringBuilder all = new StringBuilder();
        all.append(x.days()).append(' ').append(x.undoCount()).append(' ').append(x.steam()).append(' ');
        all.append(x.lengthTolerance()).append(' ').append(x.shadeTolerance()).append(' ').append(x.shapeCount());
        for (int i = 0; i < x.pieceCount(); i++) {
            all.append(' ').append(x.length(i)).append(':').append(x.shade(i)).append(':').append(x.state(i));
        }
        return all.toString();
    }

    public static void main(String[] args) {
        checkStretchLimit();
        checkReach();
        checkBoardedLength();
        checkBoardedStates();
        checkDay();
        checkSize();
        checkSorted();
        checkLengthRange();
        checkBoardAll();
        checkDye();
        checkSettings();
        checkMatchTolerances();
        checkMatchStates();
        checkGap();
        checkNearest();
        checkPairs();
        checkMostPairs();
        checkPairSize();
        checkSecondsAndGroups();
        checkBoxes();
        checkPackNothing();
        checkDaysAhead();
        checkShapesAhead();
        checkLeastSteam();
        checkLeastTolerance();
        checkBestDye();
        checkUndoKinds();
        checkUndoNothingKept();
        checkUndoTen();
        checkUndoBuffers();
        checkSets();
        checkDaysToSize();
        checkShapeFor();
        System.exit(wrong == 0 ? 0 : 1);
    }

    private static void checkStretchLimit() {
        says("that of its yarn for the kind plain, 20 more for ribbed, and 10 less, but at least 1, for lace");
        int[] stretches = {1, 2, 9, 10, 11, 12, 50, 99, 100};
        int[] laces = {1, 1, 1, 1, 1, 2, 40, 89, 90};
        for (int i = 0; i < stretches.length; i++) {
            HosieryPlant x = loaded("yarn a " + stretches[i] + " 0;piece a plain 1000 0;piece a ribbed 1000 0;piece a lace 1000 0;");
            int[] limits = {stretches[i], stretches[i] + 20, laces[i]};
            for (int j = 0; j < 3; j++) {
                due("stretchLimit(" + j + ") for " + stretches[i], x.stretchLimit(j), limits[j]);
                due("longestShape(" + j + ") for " + stretches[i], x.longestShape(j), 1000 + 10 * limits[j]);
                due("kindOf(" + j + ")", x.kindOf(j), j);
            }
        }
    }

    private static void checkReach() {
        says("A piece tears on a shape if the length of the shape is greater than length * (100 + stretch limit) / 100, rounded down.");
        int[] lengths = {500, 501, 999, 1000, 1001, 4545, 9899, 9900};
        int[] reaches = {505, 506, 1008, 1010, 1011, 4590, 9997, 9999};
        for (int i = 0; i < lengths.length; i++) {
            String text = "yarn a 1 0;piece a plain " + lengths[i] + " 7 times 2;shape s " + reaches[i] + ";";
            HosieryPlant x = loaded(text);
            due("longestShape(0) of " + lengths[i], x.longestShape(0), reaches[i]);
            due("ifBoarded(0, 0) tears", x.ifBoarded(0, 0) == NONE ? 1 : 0, 0);
            due("shapeFor(0, 9999)", x.shapeFor(0, 9999), 0);
            due("board(0, 0)", x.board(0, 0), 1);
            if (reaches[i] < 9999) {
                HosieryPlant y = loaded(text.replace("shape s " + reaches[i], "shape s " + (reaches[i] + 1)));
                due("ifBoarded(0, 0) beyond the reach", y.ifBoarded(0, 0), NONE);
                due("shapeFor(0, 9999) beyond the reach", y.shapeFor(0, 9999), NONE);
                due("board(0, 0) beyond the reach", y.board(0, 0), 2);
                says("if the piece tears on the shape, its state becomes torn and its length stays");
                due("length(0)", y.length(0), lengths[i]);
                due("boardAll(0) beyond the reach", y.boardAll(0), 0);
                due("state(1)", y.state(1), 2);
            }
        }
        says("Returns the greatest length of a shape on which the piece would not tear");
        HosieryPlant most = loaded("yarn a 100 0;shape s 9999;piece a ribbed 9999 0;piece a ribbed 4545 0;piece a ribbed 4544 0;");
        due("longestShape(0) above every shape", most.longestShape(0), 21997);
        due("longestShape(1)", most.longestShape(1), 9999);
        due("longestShape(2)", most.longestShape(2), 9996);
        due("board(0, 0)", most.board(0, 0), 1);
        due("board(1, 0)", most.board(1, 0), 1);
        due("board(2, 0)", most.board(2, 0), 2);
        due("longestShape(1) from the length now", most.longestShape(1), most.length(1) * 220 / 100);
        due("longestShape(2) of a torn piece", most.longestShape(2), 9996);
    }

    private static void checkBoardedLength() {
        says("length + (length of the shape - length) * strength / 100, where the quotient is rounded towards 0");
        // Knitted length, shape's length, strength, length afterwards.
        int[][] cases = {{1000, 1004, 25, 1001}, {1000, 1004, 24, 1000}, {1000, 1003, 33, 1000}, {1000, 1003, 34, 1001},
            {1004, 1000, 25, 1003}, {1004, 1000, 24, 1004}, {1003, 1000, 33, 1003}, {1003, 1000, 34, 1002},
            {1000, 1001, 99, 1000}, {1001, 1000, 99, 1001}, {1000, 1001, 100, 1001}, {1001, 1000, 100, 1000},
            {1000, 1000, 100, 1000}, {1000, 1000, 0, 1000}, {1000, 1100, 0, 1000}, {1000, 900, 0, 1000},
            {9999, 500, 100, 500}, {9999, 500, 0, 9999}, {9999, 500, 1, 9905}, {9999, 500, 99, 595},
            {5000, 9999, 99, 9949}, {5000, 9999, 100, 9999}, {5000, 9999, 1, 5049}};
        for (int[] each : cases) {
            HosieryPlant x = loaded("yarn a 100 0;shape s " + each[1] + ";piece a plain " + each[0] + " 7 times 2;");
            x.setSteam(each[2]);
            String call = " of " + each[0] + " on " + each[1] + " with " + each[2];
            due("ifBoarded(0, 0)" + call, x.ifBoarded(0, 0), each[3]);
            due("board(0, 0)" + call, x.board(0, 0), 1);
            due("length(0)" + call, x.length(0), each[3]);
            due("knitted(0)" + call, x.knitted(0), each[0]);
            due("boardAll(0)" + call, x.boardAll(0), 1);
            due("length(1)" + call, x.length(1), each[3]);
        }
    }

    private static void checkBoardedStates() {
        says("Boarding a piece on a shape, possible for raw and boarded pieces");
        HosieryPlant x = mixed();
        int[] states = {0, 1, 2, 3, 3, 1};
        for (int i = 0; i < states.length; i++) {
            due("state(" + i + ")", x.state(i), states[i]);
            due("ifBoarded(" + i + ", 0)", x.ifBoarded(i, 0), states[i] > 1 ? WRONG_STATE : 1000);
            due("shapeFor(" + i + ", 1000)", x.shapeFor(i, 1000), states[i] > 1 ? WRONG_STATE : 0);
            says("WRONG_STATE if the piece is torn or packed; NONE if it would tear");
            due("ifBoarded(" + i + ", 1)", x.ifBoarded(i, 1), states[i] > 1 ? WRONG_STATE : NONE);
            says("WRONG_STATE if the piece is torn or packed");
            String before = look(x);
            if (states[i] > 1) {
                due("board(" + i + ", 0)", x.board(i, 0), WRONG_STATE);
                due("board(" + i + ", 1)", x.board(i, 1), WRONG_STATE);
                same("the plant after board(" + i + ", 1)", look(x), before);
            }
        }
        says("Returns the piece's state afterwards");
        due("board(0, 0) of a raw piece", x.board(0, 0), 1);
        due("board(0, 1) of a boarded piece", x.board(0, 1), 2);
        due("board(1, 0) of a boarded piece", x.board(1, 0), 1);
    }

    private static void checkDay() {
        says("for each boarded piece, its length becomes length - (length - knitted length) * recovery / 100, [..] rounded towards 0");
        // Shape's length, recovery, length after a day; all are knitted with 1000 and boarded with all strength.
        int[][] cases = {{1004, 25, 1003}, {1004, 24, 1004}, {1003, 33, 1003}, {1003, 34, 1002},
            {996, 25, 997}, {996, 24, 996}, {997, 33, 997}, {997, 34, 998},
            {1001, 50, 1001}, {1002, 50, 1001}, {999, 50, 999}, {998, 50, 999},
            {2000, 50, 1500}, {2000, 1, 1990}, {2000, 0, 2000}, {500, 50, 750}, {500, 0, 500}, {1000, 50, 1000}};
        for (int[] each : cases) {
            HosieryPlant x = loaded("steam 100;yarn a 100 " + each[1] + ";shape s " + each[0] + ";piece a plain 1000 7 times 3;");
            x.board(1, 0);
            String call = " of a piece boarded on " + each[0] + " with recovery " + each[1];
            says("Returns the number of pieces whose length changed.");
            due("day()" + call, x.day(), each[2] == each[0] ? 0 : 1);
            due("length(1)" + call, x.length(1), each[2]);
            due("length(0) of a raw piece", x.length(0), 1000);
            due("knitted(1)", x.knitted(1), 1000);
        }
        says("for each boarded piece [and no other]");
        HosieryPlant y = loaded("steam 50;box 1;yarn a 20 50;size z 500 9999;shape s 1100;shape t 1200;shape u 9999;piece a plain 1000 7 times 14;");
        due("day() of 14 raw pieces", y.day(), 0);
        y.boardAll(1);
        due("day() of 14 boarded pieces", y.day(), 14);
        y.board(13, 2);
        y.board(12, 2);
        y.pack();
        due("inState(1) with all torn or packed", y.inState(1), 0);
        due("day() of torn and packed pieces", y.day(), 0);
        due("length(13)", y.length(13), 1050);
        due("length(0)", y.length(0), 1050);
        says("Returns the number of days that have passed since load().");
        due("days()", y.days(), 3);
        type(y, "box 7;");
        y.load();
        due("days() after a refused load()", y.days(), 3);
        y.load();
        due("days() after a load()", y.days(), 0);
        due("day() of an empty plant", y.day(), 0);
        due("days()", y.days(), 1);
    }

    private static void checkSize() {
        says("The size of a piece is the size with the lowest number whose range contains its length, or none.");
        HosieryPlant x = loaded(KEEP + "size a 1000 1100;size b 1100 1200;size c 1050 1250;size d 2000 2000;size e 9999 9999;size f 500 500;"
                + "piece a plain 999 0;piece a plain 1000 0;piece a plain 1100 0;piece a plain 1101 0;piece a plain 1200 0;piece a plain 1201 0;"
                + "piece a plain 1250 0;piece a plain 1251 0;piece a plain 1999 0;piece a plain 2000 0;piece a plain 2001 0;"
                + "piece a plain 9999 0;piece a plain 500 0;piece a plain 501 0;");
        int[] sizes = {NONE, 0, 0, 1, 1, 2, 2, NONE, NONE, 3, NONE, 4, 5, NONE};
        int[] sets = new int[6];
        for (int i = 0; i < sizes.length; i++) {
            due("sizeOf(" + i + ")", x.sizeOf(i), sizes[i]);
            if (sizes[i] != NONE) {
                sets[sizes[i]] |= 1 << i;
            }
        }
        says("Returns the pieces of this size, as a set");
        for (int i = 0; i < 6; i++) {
            due("ofSize(" + i + ")", x.ofSize(i), sets[i]);
        }
        says("NONE if it has none");
        HosieryPlant y = loaded(KEEP + "piece a plain 1000 0;");
        due("sizeOf(0) without sizes", y.sizeOf(0), NONE);
        HosieryPlant full = loaded(KEEP + "size a 500 9999;size b 500 9999;piece a plain 1000 0 times 14;");
        due("ofSize(0) of all", full.ofSize(0), 16383);
        due("ofSize(1) of none", full.ofSize(1), 0);
    }

    private static void checkSorted() {
        says("INVALID if position is negative; NONE if there are not so many pieces");
        HosieryPlant none = new HosieryPlant();
        due("sorted(-1) of none", none.sorted(-1), HosieryPlant.INVALID);
        due("sorted(0) of none", none.sorted(0), NONE);
        HosieryPlant full = loaded(KEEP + "piece a plain 1000 5 times 14;");
        for (int i = 0; i < 14; i++) {
            due("sorted(" + i + ")", full.sorted(i), i);
        }
        due("sorted(14)", full.sorted(14), NONE);
        due("sorted(greatest)", full.sorted(Integer.MAX_VALUE), NONE);
        due("sorted(-1)", full.sorted(-1), HosieryPlant.INVALID);
        says("Orders all pieces by length, then by shade, then by number.");
        HosieryPlant x = loaded(KEEP + "piece b lace 1001 0;piece a plain 1000 255;piece a ribbed 1000 254;piece b plain 999 255;piece a plain 1000 254;");
        int[] order = {3, 2, 4, 1, 0};
        for (int i = 0; i < order.length; i++) {
            due("sorted(" + i + ")", x.sorted(i), order[i]);
        }
        due("sorted(5)", x.sorted(5), NONE);
    }

    private static void checkLengthRange() {
        says("the greatest and the smallest length of all boarded pieces; NONE if no piece is boarded");
        due("lengthRange() of none", new HosieryPlant().lengthRange(), NONE);
        HosieryPlant x = loaded(KEEP + "box 1;size z 600 600;piece a plain 500 5;piece a plain 9999 5;piece a plain 600 5 times 2;piece a plain 700 5;");
        due("lengthRange() of raw pieces", x.lengthRange(), NONE);
        x.board(0, 0);
        due("lengthRange() of one", x.lengthRange(), 0);
        x.board(1, 0);
        due("lengthRange() of the least and the greatest", x.lengthRange(), 9499);
        x.board(0, 1);
        due("lengthRange() of one and a torn one", x.lengthRange(), 0);
        HosieryPlant y = loaded(KEEP + "box 1;size z 600 600;piece a plain 600 5 times 2;piece a plain 700 5;");
        y.board(0, 0);
        y.board(1, 0);
        due("lengthRange() of two alike", y.lengthRange(), 0);
        y.pack();
        due("lengthRange() of packed pieces", y.lengthRange(), NONE);
        y.board(2, 0);
        due("lengthRange() with packed pieces", y.lengthRange(), 0);
        y.board(2, 1);
        due("lengthRange() of torn and packed pieces", y.lengthRange(), NONE);
    }

    private static void checkBoardAll() {
        says("NONE, and nothing changes, if no piece is raw");
        HosieryPlant none = loaded("shape s 500;");
        due("boardAll(0) of no pieces", none.boardAll(0), NONE);
        due("undoCount()", none.undoCount(), 1);
        HosieryPlant x = mixed();
        due("boardAll(0) of the one raw piece", x.boardAll(0), 1);
        due("inState(1)", x.inState(1), 35);
        String before = look(x);
        due("boardAll(0) of no raw pieces", x.boardAll(0), NONE);
        due("boardAll(1) of no raw pieces", x.boardAll(1), NONE);
        same("the plant", look(x), before);
        due("boardAll(2)", x.boardAll(2), HosieryPlant.INVALID);
        says("Returns the number of pieces that were boarded without tearing");
        due("boardAll(1) that tears the raw one", mixed().boardAll(1), 0);
        HosieryPlant some = loaded(KEEP + "piece a plain 9090 5;piece a plain 9089 5;piece a plain 9091 5 times 12;");
        due("boardAll(1) that tears one", some.boardAll(1), 13);
        due("inState(2)", some.inState(2), 2);
        HosieryPlant full = loaded(KEEP + "piece a plain 600 5 times 14;");
        due("boardAll(0) of 14", full.boardAll(0), 14);
        due("inState(1)", full.inState(1), 16383);
    }

    private static void checkDye() {
        says("Returns the previous shade; [..] WRONG_STATE if the piece is packed");
        HosieryPlant x = mixed();
        for (int i : new int[] {0, 1, 2, 5}) {
            due("dye(" + i + ", 0)", x.dye(i, 0), 100);
            due("dye(" + i + ", 255)", x.dye(i, 255), 0);
            due("dye(" + i + ", 255) again", x.dye(i, 255), 255);
            due("shade(" + i + ")", x.shade(i), 255);
        }
        String before = look(x);
        for (int i = 3; i <= 4; i++) {
            due("dye(" + i + ", 0) of a packed piece", x.dye(i, 0), WRONG_STATE);
            due("dye(" + i + ", 100) of a packed piece", x.dye(i, 100), WRONG_STATE);
            due("dye(" + i + ", 256) of a packed piece", x.dye(i, 256), HosieryPlant.INVALID);
            due("dye(" + i + ", -1) of a packed piece", x.dye(i, -1), HosieryPlant.INVALID);
        }
        same("the plant", look(x), before);
    }

    private static void checkSettings() {
        says("Returns the previous length tolerance; INVALID if a parameter is out of range.");
        HosieryPlant x = new HosieryPlant();
        due("setTolerance(0, 255)", x.setTolerance(0, 255), 30);
        due("setTolerance(500, 0)", x.setTolerance(500, 0), 0);
        due("setTolerance(501, 255)", x.setTolerance(501, 255), HosieryPlant.INVALID);
        due("setTolerance(0, 256)", x.setTolerance(0, 256), HosieryPlant.INVALID);
        due("lengthTolerance()", x.lengthTolerance(), 500);
        due("shadeTolerance()", x.shadeTolerance(), 0);
        says("Returns the previous strength; INVALID if strength is out of range.");
        due("setSteam(0)", x.setSteam(0), 60);
        due("setSteam(100)", x.setSteam(100), 0);
        due("setSteam(101)", x.setSteam(101), HosieryPlant.INVALID);
        due("setSteam(-1)", x.setSteam(-1), HosieryPlant.INVALID);
        due("steam()", x.steam(), 100);
    }

    private static void checkMatchTolerances() {
        says("their lengths differ by at most the length tolerance, and their shades differ by at most the shade tolerance");
        for (int length : new int[] {0, 1, 30, 499, 500}) {
            for (int shade : new int[] {0, 1, 6, 126}) {
                StringBuilder text = new StringBuilder("piece a plain 2000 128;");
                int[][] offsets = {{length, shade}, {length + 1, shade}, {length, shade + 1}, {0, 0}};
                for (int sign = -1; sign <= 1; sign += 2) {
                    for (int[] offset : offsets) {
                        text.append("piece a plain ").append(2000 + sign * offset[0]).append(' ').append(128 + sign * -offset[1]).append(';');
                    }
                }
                HosieryPlant x = boarded(text.toString());
                x.setTolerance(length, shade);
                int set = 0;
                for (int i = 1; i < 9; i++) {
                    int due = i % 4 == 1 || i % 4 == 0 ? 1 : 0;
                    due("isMatch(0, " + i + ") within " + length + " and " + shade, x.isMatch(0, i), due);
                    due("isMatch(" + i + ", 0) within " + length + " and " + shade, x.isMatch(i, 0), due);
                    set |= due << i;
                }
                due("matches(0)", x.matches(0), set);
                due("matches(0) holds the piece itself", x.matches(0) & 1, 0);
            }
        }
        HosieryPlant ends = boarded("piece a plain 1000 0;piece a plain 1000 255;");
        ends.setTolerance(0, 254);
        due("isMatch(0, 1) of shades 0 and 255 within 254", ends.isMatch(0, 1), 0);
        ends.setTolerance(0, 255);
        due("isMatch(0, 1) of shades 0 and 255 within 255", ends.isMatch(0, 1), 1);
    }

    private static void checkMatchStates() {
        says("Two different pieces match if both are boarded, they have the same yarn and the same kind");
        HosieryPlant x = mixed();
        for (int i = 0; i < 6; i++) {
            for (int j = 0; j < 6; j++) {
                boolean both = (i == 1 || i == 5) && (j == 1 || j == 5);
                due("isMatch(" + i + ", " + j + ")", x.isMatch(i, j), i == j ? HosieryPlant.INVALID : both ? 1 : 0);
            }
            due("matches(" + i + ")", x.matches(i), i == 1 ? 32 : i == 5 ? 2 : 0);
            due("nearest(" + i + ")", x.nearest(i), i == 1 ? 5 : i == 5 ? 1 : NONE);
            due("partner(" + i + ")", x.partner(i), i == 1 ? 5 : i == 5 ? 1 : NONE);
        }
        HosieryPlant y = boarded("piece a plain 1000 1;piece b plain 1000 1;piece a ribbed 1000 1;piece a lace 1000 1;");
        for (int i = 0; i < 4; i++) {
            due("matches(" + i + ") of another yarn or kind", y.matches(i), 0);
        }
        HosieryPlant full = boarded("piece a plain 1000 1 times 14;");
        due("matches(0) of all", full.matches(0), 16382);
        due("matches(13) of all", full.matches(13), 8191);
    }

    private static void checkGap() {
        says("Returns the gap of the two pieces, whether they match or not");
        HosieryPlant x = loaded(KEEP + "piece a plain 500 0;piece b lace 9999 255;piece a plain 500 0;piece a plain 501 1;");
        due("gap(0, 1)", x.gap(0, 1), 12049);
        due("gap(1, 0)", x.gap(1, 0), 12049);
        due("gap(0, 2)", x.gap(0, 2), 0);
        due("gap(0, 3)", x.gap(0, 3), 11);
        due("gap(3, 0)", x.gap(3, 0), 11);
        x.board(0, 1);
        due("gap(0, 3) of a torn piece", x.gap(0, 3), 11);
        says("INVALID if a parameter is out of range or both are the same piece");
        due("gap(0, 0)", x.gap(0, 0), HosieryPlant.INVALID);
        due("isMatch(3, 3)", x.isMatch(3, 3), HosieryPlant.INVALID);
        due("gap(4, 4)", x.gap(4, 4), HosieryPlant.INVALID);
    }

    private static void checkNearest() {
        says("Returns the matching piece with the smallest gap, the lowest number among equals; [..] NONE if no piece matches");
        HosieryPlant x = boarded("piece a plain 1000 100;piece a plain 1031 100;piece a plain 1000 107;piece a plain 1030 100;"
                + "piece a plain 1000 103;piece a plain 970 100;piece a plain 1029 100;piece b plain 1000 100;");
        due("nearest(0)", x.nearest(0), 6);
        x.dye(6, 110);
        due("nearest(0) among equals", x.nearest(0), 3);
        x.dye(3, 110);
        due("nearest(0) among equals", x.nearest(0), 4);
        x.dye(4, 110);
        due("nearest(0)", x.nearest(0), 5);
        x.dye(5, 110);
        due("nearest(0) with none left", x.nearest(0), NONE);
        due("nearest(7)", x.nearest(7), NONE);
        HosieryPlant far = boarded("tolerance 500 255;piece a plain 500 0;piece a plain 1000 255;");
        due("nearest(0) with the greatest gap", far.nearest(0), 1);
        due("nearest(1) with the greatest gap", far.nearest(1), 0);
        due("gap(0, 1)", far.gap(0, 1), 3050);
        due("nearest(0) of a plant with one piece", boarded("piece a plain 1000 1;").nearest(0), NONE);
        HosieryPlant full = boarded("piece a plain 1000 1 times 14;");
        due("nearest(13)", full.nearest(13), 0);
        due("nearest(0)", full.nearest(0), 1);
    }

    private static void checkPairs() {
        says("A pairing is a set of pairs of matching pieces in which no piece occurs twice. [from no piece to fourteen]");
        for (int pieces = 0; pieces <= 14; pieces++) {
            HosieryPlant x = pieces == 0 ? boarded("") : boarded("piece a plain 1000 1 times " + pieces + ";");
            due("pairCount() of " + pieces, x.pairCount(), pieces / 2);
            due("pairGap() of " + pieces, x.pairGap(), 0);
            due("worstPair() of " + pieces, x.worstPair(), pieces < 2 ? NONE : 0);
            for (int i = 0; i < pieces; i++) {
                due("partner(" + i + ") of " + pieces, x.partner(i), i % 2 == 1 ? i - 1 : i + 1 < pieces ? i + 1 : NONE);
            }
            says("INVALID if index is negative; NONE if there is no such pair");
            for (int i = 0; i < pieces / 2; i++) {
                due("pair(" + i + ") of " + pieces, x.pair(i), 16 * 2 * i + 2 * i + 1);
            }
            for (int index : new int[] {pieces / 2, pieces / 2 + 1, 14, 31, 32, Integer.MAX_VALUE}) {
                due("pair(" + index + ") of " + pieces, x.pair(index), index < pieces / 2 ? 16 * 2 * index + 2 * index + 1 : NONE);
                due("pairSize(" + index + ") of " + pieces, x.pairSize(index), NONE);
            }
            due("pair(-1) of " + pieces, x.pair(-1), HosieryPlant.INVALID);
            due("pairSize(-1) of " + pieces, x.pairSize(-1), HosieryPlant.INVALID);
        }
        says("Returns 16 times the lower piece number plus the higher one");
        HosieryPlant ends = boarded("piece a plain 1000 1;piece b plain 1000 1 times 12;piece a plain 1000 1;");
        due("pair(0)", ends.pair(0), 13);
        due("pair(6)", ends.pair(6), 16 * 11 + 12);
        says("Returns the index [..] of the pair with the greatest gap in the best pairing, the lowest index among equals");
        HosieryPlant last = boarded("piece a plain 1000 1 times 2;piece a plain 2000 1;piece a plain 2029 1;piece a plain 3000 1;piece a plain 3000 4;");
        due("worstPair()", last.worstPair(), 2);
        last.dye(5, 3);
        due("worstPair()", last.worstPair(), 1);
        HosieryPlant equal = boarded("piece a plain 1000 1;piece a plain 1010 1;piece a plain 2000 1;piece a plain 2000 2;");
        due("worstPair() of equals", equal.worstPair(), 0);
    }

    private static void checkMostPairs() {
        says("The best pairing has the most pairs; among these the smallest sum of gaps");
        // In each four the two in the middle are alike, and the outer ones match none but them, with the greatest gap.
        StringBuilder text = new StringBuilder("tolerance 500 255;");
        for (String kind : "plain ribbed lace".split(" ")) {
            for (String piece : "1500 255,1000 0,1000 0,500 255".split(",")) {
                text.append("piece a ").append(kind).append(' ').append(piece).append(';');
            }
        }
        HosieryPlant x = boarded(text + "piece b plain 1500 255;piece b plain 1000 0;");
        due("pairCount()", x.pairCount(), 7);
        due("pairGap() of seven greatest gaps", x.pairGap(), 21350);
        for (int i = 0; i < 14; i++) {
            due("partner(" + i + ")", x.partner(i), i ^ 1);
        }
        due("gap(1, 2)", x.gap(1, 2), 0);
        says("among these it is decided piece by piece, beginning with piece 0: the piece gets the lowest possible partner");
        HosieryPlant equal = boarded("piece a plain 1000 1;piece a plain 1020 1;piece a plain 1010 1;piece a plain 1030 1;");
        int[] partners = {2, 3, 0, 1};
        for (int i = 0; i < 4; i++) {
            due("partner(" + i + ") by the sum", equal.partner(i), partners[i]);
        }
        equal.setTolerance(500, 6);
        equal.dye(1, 2);
        equal.dye(3, 2);
        for (int i = 0; i < 4; i++) {
            due("partner(" + i + ") by the sum", equal.partner(i), partners[i]);
        }
        HosieryPlant square = boarded("piece a plain 1000 1;piece a plain 1010 1;piece a plain 1000 2;piece a plain 1010 2;");
        for (int i = 0; i < 4; i++) {
            due("partner(" + i + ") of equal sums", square.partner(i), i ^ 1);
        }
        says("it stays without a partner only if no such pairing gives it one");
        HosieryPlant three = boarded("piece a plain 1030 1;piece a plain 1000 1;piece a plain 1060 1;");
        int[] thirds = {1, 0, NONE};
        for (int i = 0; i < 3; i++) {
            due("partner(" + i + ") of three", three.partner(i), thirds[i]);
        }
        HosieryPlant alone = boarded("piece a plain 1000 1;piece a plain 1030 1;piece a plain 1059 1;");
        int[] others = {NONE, 2, 1};
        for (int i = 0; i < 3; i++) {
            due("partner(" + i + ") by the smaller gap", alone.partner(i), others[i]);
        }
    }

    private static void checkPairSize() {
        says("The size of a pair is the size with the lowest number whose range contains both lengths, or none.");
        // The lengths of the one pair, and its size among these.
        String sizes = "size a 1000 1010;size b 1005 1020;size c 1000 1020;size d 2000 2000;";
        int[][] cases = {{1000, 1010, 0}, {1010, 1000, 0}, {999, 1000, NONE}, {1000, 1011, 2}, {1011, 1000, 2}, {1004, 1011, 2}, {1005, 1011, 1},
            {1011, 1005, 1}, {1010, 1020, 1}, {1005, 1010, 0}, {1020, 1021, NONE}, {1021, 1021, NONE}, {2000, 2000, 3}, {2000, 2001, NONE}, {1999, 2000, NONE}};
        for (int[] each : cases) {
            HosieryPlant x = boarded(sizes + "piece a plain " + each[0] + " 1;piece a plain " + each[1] + " 1;");
            due("pairSize(0) of " + each[0] + " and " + each[1], x.pairSize(0), each[2]);
            due("pairCount()", x.pairCount(), 1);
            x.setTolerance(30, 0);
            due("pairSize(1)", x.pairSize(1), NONE);
        }
    }

    private static void checkSecondsAndGroups() {
        says("Returns the boarded pieces without a partner in the best pairing, and the torn pieces.");
        due("seconds() of none", new HosieryPlant().seconds(), 0);
        HosieryPlant x = mixed();
        due("seconds()", x.seconds(), 4);
        x.dye(1, 0);
        due("seconds() of two that match no more", x.seconds(), 2 | 4 | 32);
        HosieryPlant torn = loaded(KEEP + "piece a plain 1000 1 times 14;");
        due("seconds() of raw pieces", torn.seconds(), 0);
        torn.boardAll(1);
        due("seconds() of torn pieces", torn.seconds(), 16383);
        says("a boarded piece that matches no other one is a group of its own");
        due("groupCount() of none", new HosieryPlant().groupCount(), 0);
        due("groupCount() of torn pieces", torn.groupCount(), 0);
        HosieryPlant alone = boarded("piece a plain 1000 1;");
        due("groupCount() of one", alone.groupCount(), 1);
        due("groupOf(0) of one", alone.groupOf(0), 0);
        StringBuilder apart = new StringBuilder();
        StringBuilder chain = new StringBuilder();
        for (int i = 0; i < 14; i++) {
            apart.append("piece a plain ").append(1000 + 31 * i).append(" 1;");
            chain.append("piece a plain ").append(1000 + 30 * i).append(" 1;");
        }
        HosieryPlant many = boarded(apart.toString());
        due("groupCount() of 14 apart", many.groupCount(), 14);
        due("groupOf(13) of 14 apart", many.groupOf(13), 13);
        says("a chain of pieces in which each piece matches the next one");
        HosieryPlant one = boarded(chain.toString());
        due("groupCount() of a chain of 14", one.groupCount(), 1);
        due("groupOf(13) of a chain of 14", one.groupOf(13), 0);
        one.board(6, 1);
        due("groupCount() of a broken chain", one.groupCount(), 2);
        due("groupOf(13) of a broken chain", one.groupOf(13), 7);
        due("groupOf(5) of a broken chain", one.groupOf(5), 0);
        says("WRONG_STATE if it is not boarded");
        due("groupOf(6) of a torn piece", one.groupOf(6), WRONG_STATE);
        int[] groups = {WRONG_STATE, 1, WRONG_STATE, WRONG_STATE, WRONG_STATE, 1};
        HosieryPlant y = mixed();
        for (int i = 0; i < groups.length; i++) {
            due("groupOf(" + i + ")", y.groupOf(i), groups[i]);
        }
        due("groupCount() of the mixed plant", y.groupCount(), 1);
    }

    private static void checkBoxes() {
        says("From each group as many full boxes are packed as possible, with the first pairs of the group.");
        for (int box = 1; box <= 6; box++) {
            for (int pairs = 0; pairs <= 7; pairs++) {
                String text = "box " + box + ";size z 500 9999;" + (pairs == 0 ? "" : "piece a plain 1000 1 times " + 2 * pairs + ";");
                HosieryPlant x = boarded(text);
                int boxes = pairs / box;
                due("boxCount() of " + pairs + " by " + box, x.boxCount(), boxes);
                due("pack() of " + pairs + " by " + box, x.pack(), boxes == 0 ? NONE : boxes);
                due("inState(3) of " + pairs + " by " + box, x.inState(3), (1 << 2 * boxes * box) - 1);
                due("boxCount() after it", x.boxCount(), 0);
                due("pairCount() after it", x.pairCount(), pairs - boxes * box);
            }
        }
        says("The pairs of the best pairing that have a size are divided into groups of equal yarn, kind and size.");
        String sizes = "size z 1000 1099;size y 1100 1199;";
        String[] others = {"piece b plain 1000 1 times 2;", "piece a lace 1000 1 times 2;", "piece a ribbed 1000 1 times 2;",
            "piece a plain 1100 1 times 2;", "piece a plain 1200 1 times 2;", "piece a plain 1099 1;piece a plain 1100 1;"};
        for (String other : others) {
            HosieryPlant x = boarded("box 2;" + sizes + "piece a plain 1000 1 times 2;" + other);
            due("pairCount() with " + other, x.pairCount(), 2);
            due("boxCount() with " + other, x.boxCount(), 0);
            due("pack() with " + other, x.pack(), NONE);
        }
        due("boxCount() of two in one group", boarded("box 2;" + sizes + "piece a plain 1000 1 times 2;piece a plain 1099 1 times 2;").boxCount(), 1);
        says("The pairs of a group are ordered by their lower piece number.");
        HosieryPlant x = boarded("box 2;size z 500 9999;piece a plain 1000 1;piece b plain 1000 1;piece a plain 1100 1;piece a plain 1200 1 times 2;"
                + "piece a plain 1100 1;piece b plain 1000 1;piece a plain 1000 1;");
        due("pack()", x.pack(), 1);
        due("inState(3)", x.inState(3), 1 | 1 << 7 | 1 << 2 | 1 << 5);
    }

    private static void checkPackNothing() {
        says("Returns the number of boxes; NONE, and nothing changes, if no box can be packed.");
        HosieryPlant none = new HosieryPlant();
        due("pack() of none", none.pack(), NONE);
        due("boxCount() of none", none.boxCount(), 0);
        String[] texts = {"piece a plain 1000 1 times 14;", "size z 500 999;piece a plain 1000 1 times 14;", "box 6;size z 500 9999;piece a plain 1000 1 times 11;",
            "size z 500 9999;piece a plain 1000 1 times 3;", "box 1;size z 500 9999;piece a plain 1000 1;", "size z 500 9999;"};
        for (String text : texts) {
            HosieryPlant x = boarded(text);
            x.day();
            String before = look(x);
            due("boxCount() of " + text, x.boxCount(), 0);
            due("pack() of " + text, x.pack(), NONE);
            same("the plant after it", look(x), before);
        }
        HosieryPlant raw = loaded(KEEP + "box 1;size z 500 9999;piece a plain 1000 1 times 4;");
        due("pack() of raw pieces", raw.pack(), NONE);
        raw.boardAll(1);
        due("pack() of torn pieces", raw.pack(), NONE);
    }

    /** Piece 0 is 190 longer than piece 1 and comes nearer by 1 each day; they match within this tolerance. */
    private static HosieryPlant nearing(int tolerance) {
        HosieryPlant x = loaded("steam 100;tolerance " + tolerance + " 6;yarn a 50 1;shape s 1190;shape t 1000;piece a plain 1000 5 times 2;");
        x.board(0, 0);
        x.board(1, 1);
        return x;
    }

    private static void checkDaysAhead() {
        says("Returns the number of pairs in the best pairing after so many further days [0 to 60]");
        HosieryPlant x = nearing(130);
        due("ifDays(0)", x.ifDays(0), 0);
        due("ifDays(59)", x.ifDays(59), 0);
        due("ifDays(60)", x.ifDays(60), 1);
        due("ifDays(0) within 189", nearing(189).ifDays(0), 0);
        due("ifDays(1) within 189", nearing(189).ifDays(1), 1);
        due("ifDays(0) within 190", nearing(190).ifDays(0), 1);
        due("ifDays(60) within 129", nearing(129).ifDays(60), 0);
        says("the number of further days, 0 to days, after which the best pairing has the most pairs, the smallest number among equals");
        due("bestDay(60)", x.bestDay(60), 60);
        due("bestDay(59)", x.bestDay(59), 0);
        due("bestDay(60) within 131", nearing(131).bestDay(60), 59);
        due("bestDay(60) within 129", nearing(129).bestDay(60), 0);
        due("bestDay(60) within 190", nearing(190).bestDay(60), 0);
        due("bestDay(0) within 190", nearing(190).bestDay(0), 0);
        due("bestDay(1) within 189", nearing(189).bestDay(1), 1);
        due("bestDay(0) within 189", nearing(189).bestDay(0), 0);
        x.day();
        due("ifDays(59) a day later", x.ifDays(59), 1);
        due("ifDays(58) a day later", x.ifDays(58), 0);
        due("bestDay(60) a day later", x.bestDay(60), 59);
        due("days()", x.days(), 1);
        due("length(0)", x.length(0), 1189);
    }

    private static void checkShapesAhead() {
        says("Predicts pairs if all raw pieces were boarded on a shape now.");
        HosieryPlant x = loaded(KEEP + "piece a plain 1000 5 times 14;");
        due("ifAllBoarded(0) of 14", x.ifAllBoarded(0), 7);
        due("ifAllBoarded(1) that tears all", x.ifAllBoarded(1), 0);
        due("pairCount()", x.pairCount(), 0);
        HosieryPlant y = mixed();
        due("ifAllBoarded(0) with two boarded and one raw", y.ifAllBoarded(0), 1);
        due("ifAllBoarded(1) with two boarded and one that tears", y.ifAllBoarded(1), 1);
        y.board(5, 1);
        due("ifAllBoarded(0) with one boarded and one raw", y.ifAllBoarded(0), 1);
        due("ifAllBoarded(1) with one boarded and one that tears", y.ifAllBoarded(1), 0);
        says("Returns the shape with the greatest ifAllBoarded(), the lowest number among equals; NONE if there are no shapes.");
        due("bestShape()", x.bestShape(), 0);
        due("bestShape() of none", new HosieryPlant().bestShape(), NONE);
        due("bestShape() without shapes", loaded("yarn a 5 5;piece a plain 1000 5 times 2;").bestShape(), NONE);
        due("bestShape() without pieces", loaded("shape s 500;shape t 600;").bestShape(), 0);
        StringBuilder eight = new StringBuilder("yarn a 1 5;piece a plain 600 5 times 2;");
        for (int i = 0; i < 8; i++) {
            eight.append("shape ").append((char) ('a' + i)).append(i == 7 ? " 606;" : " 607;");
        }
        due("bestShape() as the last of eight", loaded(eight.toString()).bestShape(), 7);
        due("bestShape() of equals", loaded(eight.toString().replace("607", "606")).bestShape(), 0);
        due("bestShape() that all tear", loaded(eight.toString().replace("606", "607")).bestShape(), 0);
    }

    private static void checkLeastSteam() {
        says("Returns the smallest strength, 0 to 100, with which ifAllBoarded() would be at least pairs; [..] NONE if there is none.");
        // The lengths differ by 100 * (100 - strength) / 100 after boarding.
        for (int tolerance : new int[] {0, 1, 50, 99, 100, 101}) {
            HosieryPlant x = loaded("tolerance " + tolerance + " 6;yarn a 100 5;shape s 1100;piece a plain 1000 5;piece a plain 1100 5;");
            due("leastSteam(0, 1) within " + tolerance, x.leastSteam(0, 1), Math.max(0, 100 - tolerance));
            due("leastSteam(0, 2) within " + tolerance, x.leastSteam(0, 2), NONE);
            due("steam()", x.steam(), 60);
        }
        HosieryPlant apart = loaded("tolerance 0 6;yarn a 100 5;shape s 1100;piece a plain 1000 5;piece a plain 1100 12;");
        due("leastSteam(0, 1) of shades apart", apart.leastSteam(0, 1), NONE);
        for (int pieces = 2; pieces <= 14; pieces++) {
            HosieryPlant x = loaded(KEEP + "piece a plain 1000 5 times " + pieces + ";");
            for (int pairs = 1; pairs <= 7; pairs++) {
                due("leastSteam(0, " + pairs + ") of " + pieces, x.leastSteam(0, pairs), pairs <= pieces / 2 ? 0 : NONE);
                due("leastSteam(1, " + pairs + ") that tears " + pieces, x.leastSteam(1, pairs), NONE);
            }
        }
        // Piece 1, boarded before, keeps a length to which strengths from -1 to 101 would bring piece 0.
        int[] kept = {999, 1000, 1001, 1050, 1099, 1100, 1101};
        int[] dues = {NONE, 0, 1, 50, 99, 100, NONE};
        for (int i = 0; i < kept.length; i++) {
            HosieryPlant x = loaded("tolerance 0 6;steam 0;yarn a 100 5;shape s 1100;piece a plain 1000 5;piece a plain " + kept[i] + " 5;");
            x.board(1, 0);
            due("leastSteam(0, 1) to the length " + kept[i], x.leastSteam(0, 1), dues[i]);
        }
        due("leastSteam(0, 1) without raw pieces", nearing(190).leastSteam(0, 1), 0);
        due("leastSteam(0, 1) without raw pieces", nearing(189).leastSteam(0, 1), NONE);
    }

    private static void checkLeastTolerance() {
        says("Returns the smallest length tolerance, 0 to 500, with which the best pairing would have at least that many pairs [..] NONE if there is none.");
        for (int apart : new int[] {0, 1, 2, 30, 31, 249, 250, 251, 255, 256, 498, 499, 500, 501, 502}) {
            HosieryPlant x = boarded("piece a plain 1000 5;piece a plain " + (1000 + apart) + " 11;");
            due("leastTolerance(1) of " + apart + " apart", x.leastTolerance(1), apart <= 500 ? apart : NONE);
            due("leastTolerance(2) of " + apart + " apart", x.leastTolerance(2), NONE);
            says("Returns the number of pairs in the best pairing if these were the tolerances");
            due("ifTolerance at " + apart, apart <= 500 ? x.ifTolerance(apart, 6) : 1, 1);
            due("ifTolerance below " + apart, apart > 0 && apart <= 501 ? x.ifTolerance(apart - 1, 255) : 0, 0);
            due("ifTolerance of another shade", x.ifTolerance(500, 5), 0);
            due("ifTolerance(500, 255)", x.ifTolerance(500, 255), apart <= 500 ? 1 : 0);
            says("the shade tolerance stays");
            x.setTolerance(7, 5);
            due("leastTolerance(1) within a shade of 5", x.leastTolerance(1), NONE);
            due("lengthTolerance()", x.lengthTolerance(), 7);
            due("shadeTolerance()", x.shadeTolerance(), 5);
            says("Returns the smallest length tolerance, 0 to 500");
        }
        StringBuilder text = new StringBuilder();
        for (int i = 0; i < 14; i++) {
            text.append("piece a plain ").append(600 * (i / 2 + 1) + i % 2 * (i / 2 + 1) * 50).append(" 5;");
        }
        HosieryPlant x = boarded(text.toString());
        for (int pairs = 1; pairs <= 7; pairs++) {
            due("leastTolerance(" + pairs + ")", x.leastTolerance(pairs), 50 * pairs);
        }
        due("leastTolerance(1) of none", new HosieryPlant().leastTolerance(1), NONE);
        due("leastTolerance(7) of none", new HosieryPlant().leastTolerance(7), NONE);
    }

    /** Boarded pieces that differ by their shades alone; they match within this tolerance. */
    private static HosieryPlant shaded(int tolerance, int... shades) {
        StringBuilder text = new StringBuilder("tolerance 30 " + tolerance + ";");
        for (int shade : shades) {
            text.append("piece a plain 1000 ").append(shade).append(';');
        }
        return boarded(text.toString());
    }

    private static void checkBestDye() {
        says("Returns the shade, 0 to 255, [..] with which the best pairing would have the most pairs");
        due("bestDye to 0", shaded(0, 255, 0).bestDye(0), 0);
        due("bestDye to 255", shaded(0, 0, 255).bestDye(0), 255);
        due("bestDye to 1", shaded(0, 255, 1).bestDye(0), 1);
        due("bestDye to 254", shaded(0, 0, 254).bestDye(0), 254);
        due("bestDye from 0", shaded(6, 0, 255).bestDye(0), 249);
        due("bestDye from 255", shaded(6, 0, 255).bestDye(1), 6);
        says("the shade nearest to the present one among equals");
        due("bestDye of a match", shaded(6, 100, 106).bestDye(0), 100);
        due("bestDye of one just out of reach", shaded(6, 100, 107).bestDye(0), 101);
        due("bestDye alone at 0", shaded(6, 0).bestDye(0), 0);
        due("bestDye alone at 255", shaded(6, 255).bestDye(0), 255);
        due("bestDye within all shades", shaded(255, 255, 0).bestDye(0), 255);
        due("bestDye of the nearer above", shaded(0, 100, 90, 109).bestDye(0), 109);
        due("bestDye of the nearer below", shaded(0, 100, 91, 110).bestDye(0), 91);
        says("of two the lower one");
        due("bestDye of two", shaded(0, 100, 90, 110).bestDye(0), 90);
        due("bestDye of the ends", shaded(0, 128, 0, 255).bestDye(0), 255);
        due("bestDye of the ends", shaded(0, 127, 0, 255).bestDye(0), 0);
        says("WRONG_STATE if the piece is not boarded");
        int[] due = {WRONG_STATE, 100, WRONG_STATE, WRONG_STATE, WRONG_STATE, 100};
        HosieryPlant x = mixed();
        for (int i = 0; i < due.length; i++) {
            due("bestDye(" + i + ")", x.bestDye(i), due[i]);
        }
        due("bestDye(6)", x.bestDye(6), HosieryPlant.INVALID);
        due("shade(1)", x.shade(1), 100);
    }

    /** One call of each kind that can be undone. */
    private static void change(HosieryPlant x, int kind) {
        switch (kind) {
            case 0: x.load(); break;
            case 1: x.boardAll(0); break;
            case 2: x.boardAll(1); break;
            case 3: x.pack(); break;
            case 4: x.day(); break;
            case 5: x.board(0, 0); break;
            case 6: x.board(5, 1); break;
            case 7: x.dye(2, 101); break;
            case 8: x.setTolerance(31, 6); break;
            case 9: x.setTolerance(30, 5); break;
            case 10: x.setSteam(1); break;
            default: x.setTolerance(0, 0); break;
        }
    }

    private static void checkUndoKinds() {
        says("Each successful load(), boardAll() and pack() can be undone, each day(), and each call [..] that changes something");
        for (int kind = 0; kind <= 11; kind++) {
            HosieryPlant x = mixed();
            String before = look(x);
            int count = x.undoCount();
            change(x, kind);
            due("undoCount() after change " + kind, x.undoCount(), count + 1);
            says("Returns how many calls can still be undone");
            due("undo() of change " + kind, x.undo(), count);
            says("undo() restores everything");
            same("the plant after undo() of change " + kind, look(x), before);
            says("Each successful load(), boardAll() and pack() can be undone, each day(), and each call [..] that changes something");
        }
        HosieryPlant empty = new HosieryPlant();
        due("day() of an empty plant", empty.day(), 0);
        due("undoCount() after a day that changes no length", empty.undoCount(), 1);
        empty.load();
        due("undoCount() after a load of nothing", empty.undoCount(), 2);
        due("undo()", empty.undo(), 1);
        due("days()", empty.days(), 1);
        due("undo()", empty.undo(), 0);
        due("days()", empty.days(), 0);
        says("NONE if there is nothing to undo");
        due("undo()", empty.undo(), NONE);
        due("undo() again", empty.undo(), NONE);
        due("undoCount()", empty.undoCount(), 0);
    }

    private static void checkUndoNothingKept() {
        says("each call of board(), dye(), setTolerance() and setSteam() that changes something");
        HosieryPlant x = mixed();
        x.dye(5, 0);
        String before = look(x);
        due("board(1, 0) that changes nothing", x.board(1, 0), 1);
        due("dye(2, 100) that changes nothing", x.dye(2, 100), 100);
        due("setTolerance(30, 6) that changes nothing", x.setTolerance(30, 6), 30);
        due("setSteam(0) that changes nothing", x.setSteam(0), 0);
        due("pack() of nothing", x.pack(), NONE);
        due("board(2, 0) of a torn piece", x.board(2, 0), WRONG_STATE);
        type(x, "box 0;");
        due("load() of a wrong text", x.load(), HosieryPlant.PARSE_ERROR);
        same("the plant", look(x), before);
        // The same once ten calls are kept: none of them may give way.
        for (int i = 1; i <= 20; i++) {
            x.setSteam(i);
        }
        x.setSteam(20);
        x.board(2, 0);
        x.setTolerance(30, 6);
        x.dye(2, 100);
        x.setSteam(101);
        x.boardAll(9);
        due("pack() of nothing", x.pack(), NONE);
        type(x, "box 0;");
        due("load() of a wrong text", x.load(), HosieryPlant.PARSE_ERROR);
        for (int i = 9; i >= 0; i--) {
            due("undo()", x.undo(), i);
            due("steam()", x.steam(), i + 10);
        }
        due("undo() of nothing", x.undo(), NONE);
        due("steam()", x.steam(), 10);
        says("[a boarded piece that keeps its length changes by tearing alone]");
        HosieryPlant y = loaded("steam 33;yarn a 1 0;shape s 1003;shape t 1011;piece a plain 1000 5;");
        y.board(0, 0);
        due("undoCount()", y.undoCount(), 2);
        y.board(0, 0);
        due("undoCount() after the same again", y.undoCount(), 2);
        y.board(0, 1);
        due("undoCount() after tearing", y.undoCount(), 3);
        due("state(0)", y.state(0), 2);
        y.undo();
        due("state(0)", y.state(0), 1);
    }

    private static void checkUndoTen() {
        says("the last 10 are kept");
        for (int calls = 0; calls <= 31; calls++) {
            HosieryPlant x = new HosieryPlant();
            for (int i = 1; i <= calls; i++) {
                x.day();
                due("undoCount() after " + i, x.undoCount(), Math.min(i, 10));
            }
            for (int left = Math.min(calls, 10) - 1; left >= 0; left--) {
                due("undo() after " + calls, x.undo(), left);
                due("undoCount()", x.undoCount(), left);
                due("days()", x.days(), calls - Math.min(calls, 10) + left);
            }
            due("undo() after all", x.undo(), NONE);
            due("days() after all", x.days(), Math.max(0, calls - 10));
        }
        HosieryPlant x = loaded(KEEP + "piece a plain 1000 5;");
        for (int i = 0; i < 9; i++) {
            x.day();
        }
        due("undoCount()", x.undoCount(), 10);
        for (int i = 9; i >= 0; i--) {
            due("undo()", x.undo(), i);
        }
        due("pieceCount() before the load()", x.pieceCount(), 0);
        HosieryPlant y = loaded(KEEP + "piece a plain 1000 5;");
        for (int i = 0; i < 10; i++) {
            y.day();
        }
        for (int i = 9; i >= 0; i--) {
            due("undo()", y.undo(), i);
        }
        due("undo() of the load()", y.undo(), NONE);
        due("pieceCount() after the load()", y.pieceCount(), 1);
    }

    private static void checkUndoBuffers() {
        says("undo() restores everything except the two buffers and the parse error");
        HosieryPlant x = loaded(KEEP + "piece a plain 1000 5;");
        x.day();
        type(x, "box 1;?");
        x.load();
        x.writePlant();
        int length = x.writePlant();
        type(x, "yarn c 5 5;");
        due("undo() of the day", x.undo(), 1);
        due("undo() of the load", x.undo(), 0);
        due("undo() of nothing", x.undo(), NONE);
        due("errorCode()", x.errorCode(), 1);
        due("errorPosition()", x.errorPosition(), 6);
        due("outputByte(length - 1)", x.outputByte(length - 1), ';');
        due("outputByte(length)", x.outputByte(length), NONE);
        due("truncate(12)", x.truncate(12), NONE);
        due("truncate(11)", x.truncate(11), 11);
        due("yarnCount()", x.yarnCount(), 0);
        due("load() of what was typed before", x.load(), 0);
        due("yarnCount()", x.yarnCount(), 1);
        due("errorCode()", x.errorCode(), 0);
        due("undo() of a right load", x.undo(), 0);
        due("errorCode() as it was after the load", x.errorCode(), 0);
        due("truncate(1) of what the load took", x.truncate(1), NONE);
    }

    private static void checkSets() {
        says("Sets of pieces are bit masks in which bit i stands for piece i.");
        HosieryPlant x = mixed();
        int[] states = {1, 2 | 32, 4, 8 | 16};
        for (int state = 0; state < 4; state++) {
            due("inState(" + state + ")", x.inState(state), states[state]);
            due("inState(" + state + ") of none", new HosieryPlant().inState(state), 0);
        }
        HosieryPlant full = loaded("yarn a 5 5;yarn b 5 5;yarn c 5 5;yarn d 5 5;yarn e 5 5;yarn f 5 5;piece f plain 500 5 times 13;piece a lace 500 5;");
        due("inState(0) of all", full.inState(0), 16383);
        int[] yarns = {8192, 0, 0, 0, 0, 8191};
        for (int yarn = 0; yarn < 6; yarn++) {
            due("ofYarn(" + yarn + ")", full.ofYarn(yarn), yarns[yarn]);
        }
        HosieryPlant all = loaded("yarn a 5 5;piece a plain 500 5 times 14;");
        due("ofYarn(0) of all", all.ofYarn(0), 16383);
    }

    private static void checkDaysToSize() {
        says("Returns the smallest number of further days, 0 to 60, after which sizeOf() would be this size; [..] NONE if there is none.");
        // The length is 1190 and falls by 1 a day.
        int[] greatests = {1191, 1190, 1189, 1131, 1130, 1129};
        int[] due = {0, 0, 1, 59, 60, NONE};
        for (int i = 0; i < greatests.length; i++) {
            HosieryPlant x = loaded("steam 100;yarn a 50 1;shape s 1190;size z 500 " + greatests[i] + ";piece a plain 1000 5 times 2;");
            due("daysToSize(1, 0) of a raw piece", x.daysToSize(1, 0), 0);
            x.board(0, 0);
            due("daysToSize(0, 0) to " + greatests[i], x.daysToSize(0, 0), due[i]);
            due("days()", x.days(), 0);
        }
        HosieryPlant x = loaded("steam 100;yarn a 50 1;shape s 1190;shape t 9999;size z 1150 1180;size y 1170 1175;size w 1145 1160;piece a plain 1000 5 times 2;");
        x.board(0, 0);
        due("daysToSize(0, 0)", x.daysToSize(0, 0), 10);
        due("daysToSize(0, 1) behind a lower size", x.daysToSize(0, 1), NONE);
        due("daysToSize(0, 2) past a lower size", x.daysToSize(0, 2), 41);
        due("daysToSize(1, 0) of a raw piece without a size", x.daysToSize(1, 0), NONE);
        x.board(0, 1);
        due("daysToSize(0, 0) of a torn piece", x.daysToSize(0, 0), NONE);
        x.undo();
        for (int i = 0; i < 41; i++) {
            x.day();
        }
        due("daysToSize(0, 2) when it has it", x.daysToSize(0, 2), 0);
        due("daysToSize(0, 0) when it had it", x.daysToSize(0, 0), NONE);
    }

    private static void checkShapeFor() {
        says("the shape with which boarding the piece now would bring its length nearest to length, without tearing it, the lowest number among equals");
        HosieryPlant x = loaded("steam 100;yarn a 50 0;shape l 1400;shape s 1000;shape m 1200;shape n 1200;shape t 1501;shape o 1500;piece a plain 1000 5;");
        int[][] due = {{500, 1}, {1000, 1}, {1099, 1}, {1100, 1}, {1101, 2}, {1200, 2}, {1299, 2}, {1300, 0}, {1400, 0}, {1450, 0}, {1451, 5}, {1500, 5}, {9999, 5}};
        for (int[] each : due) {
            due("shapeFor(0, " + each[0] + ")", x.shapeFor(0, each[0]), each[1]);
        }
        due("state(0)", x.state(0), 0);
        says("NONE if it would tear on every shape or there are no shapes");
        due("shapeFor(0, 500) without shapes", loaded("yarn a 5 5;piece a plain 600 5;").shapeFor(0, 500), NONE);
        due("shapeFor(0, 9999) that tears on all", loaded("yarn a 1 5;shape s 607;shape t 9999;piece a plain 600 5;").shapeFor(0, 9999), NONE);
        due("shapeFor(0, 9999) that tears on all but the last", loaded("yarn a 1 5;shape s 607;shape t 606;piece a plain 600 5;").shapeFor(0, 9999), 1);
        HosieryPlant still = loaded("steam 0;yarn a 50 5;shape s 900;shape t 600;shape u 601;piece a plain 600 5;");
        due("shapeFor(0, 700) without steam", still.shapeFor(0, 700), 0);
        says("WRONG_STATE if the piece is torn or packed; NONE if it would tear on every shape");
        HosieryPlant y = mixed();
        for (int length : new int[] {500, 9999}) {
            due("shapeFor(2, " + length + ")", y.shapeFor(2, length), WRONG_STATE);
            due("shapeFor(3, " + length + ")", y.shapeFor(3, length), WRONG_STATE);
            due("shapeFor(1, " + length + ")", y.shapeFor(1, length), 0);
        }
        due("shapeFor(2, 499)", y.shapeFor(2, 499), HosieryPlant.INVALID);
        due("shapeFor(3, 10000)", y.shapeFor(3, 10000), HosieryPlant.INVALID);
    }
}
