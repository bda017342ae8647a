/** Promises 37 to 50 and 62: matches, the best pairing, groups and packing. */
public final class PairTest {
    // Without steam a boarded piece keeps its length, and the shortest shape tears none.
    private static final String KEEP = "steam 0;shape s 500;yarn a 10 0;yarn b 10 0;";
    private static int wrong = 0;

    private static void due(String call, int got, int want) {
        if (got != want) {
            wrong++;
            System.out.println(call + " answered " + got + ", due is " + want);
        }
    }

    private static HosieryPlant loaded(String text) {
        HosieryPlant x = new HosieryPlant();
        for (int i = 0; i < text.length(); i += 20) {
            int[] words = new int[5];
            for (int j = 0; j < 20; j++) {
                int sign = i + j < text.length() ? text.charAt(i + j) : ' ';
                words[j / 4] = words[j / 4] << 8 | sign;
            }
            x.append(words[0], words[1], words[2], words[3], words[4]);
        }
        x.truncate(text.length());
        if (x.load() < 0) {
            due("load of <" + text + ">", x.errorCode(), 0);
        }
        return x;
    }

    private static HosieryPlant boarded(String text) {
        HosieryPlant x = loaded(KEEP + text);
        x.boardAll(0);
        return x;
    }

    /** Plain pieces of one yarn and shade with these lengths, all boarded. */
    private static HosieryPlant withLengths(String settings, int... lengths) {
        StringBuilder text = new StringBuilder(settings);
        for (int length : lengths) {
            text.append("piece a plain ").append(length).append(" 100;");
        }
        return boarded(text.toString());
    }

    private static void partnersDue(String what, HosieryPlant x, int... partners) {
        int pairs = 0;
        int gaps = 0;
        int index = 0;
        for (int i = 0; i < partners.length; i++) {
            due(what + ": partner(" + i + ")", x.partner(i), partners[i]);
            if (partners[i] > i) {
                pairs++;
                gaps += x.gap(i, partners[i]);
                due(what + ": pair(" + index + ")", x.pair(index), 16 * i + partners[i]);
                index++;
            }
        }
        due(what + ": pairCount()", x.pairCount(), pairs);
        due(what + ": pairGap()", x.pairGap(), gaps);
        due(what + ": pair(" + index + ")", x.pair(index), HosieryPlant.NONE);
    }

    public static void main(String[] args) {
        checkExampleOne();
        checkMatch();
        checkGap();
        checkNearest();
        checkBestPairing();
        checkFullPlant();
        checkKnownPairings();
        checkPairCalls();
        checkPairSize();
        checkWorstPair();
        checkSeconds();
        checkGroups();
        checkPack();
        checkPackGroups();
        System.exit(wrong == 0 ? 0 : 1);
    }

    private static void checkExampleOne() {
        HosieryPlant x = new HosieryPlant();
        due("append", x.append(2036429422, 543236147, 807416368, 997419105, 1885675622), 20);
        due("append", x.append(540161072, 809201769, 1701012768, 1629515884, 1634299424), 40);
        due("append", x.append(842018864, 540614772, 1768777075, 540162848, 538976288), 60);
        due("truncate(55)", x.truncate(55), 55);
        due("load()", x.load(), 2);
        due("boardAll(0)", x.boardAll(0), 2);
        due("length(0)", x.length(0), 2240);
        due("pairCount()", x.pairCount(), 1);
        due("partner(0)", x.partner(0), 1);
        due("day()", x.day(), 2);
        due("length(1)", x.length(1), 2192);
    }

    private static void checkMatch() {
        HosieryPlant x = boarded("tolerance 30 6;shape t 9999;piece a plain 1000 100;piece a plain 1030 106;piece a plain 1031 100;"
                + "piece a plain 1000 107;piece b plain 1000 100;piece a ribbed 1000 100;piece a plain 970 94;piece a plain 969 100;");
        int[] due = {0, 1, 0, 0, 0, 0, 1, 0};
        for (int i = 1; i < due.length; i++) {
            due("isMatch(0, " + i + ")", x.isMatch(0, i), due[i]);
            due("isMatch(" + i + ", 0)", x.isMatch(i, 0), due[i]);
        }
        due("matches(0)", x.matches(0), 1 << 1 | 1 << 6);
        due("matches(4)", x.matches(4), 0);
        due("isMatch(0, 0)", x.isMatch(0, 0), HosieryPlant.INVALID);
        due("isMatch(0, 8)", x.isMatch(0, 8), HosieryPlant.INVALID);
        due("isMatch(8, 0)", x.isMatch(8, 0), HosieryPlant.INVALID);
        due("isMatch(-1, 0)", x.isMatch(-1, 0), HosieryPlant.INVALID);
        due("isMatch(0, -1)", x.isMatch(0, -1), HosieryPlant.INVALID);
        due("isMatch(8, 8)", x.isMatch(8, 8), HosieryPlant.INVALID);
        due("matches(8)", x.matches(8), HosieryPlant.INVALID);
        due("matches(-1)", x.matches(-1), HosieryPlant.INVALID);
        x.board(1, 1);
        due("isMatch(0, 1) of a torn piece", x.isMatch(0, 1), 0);
        due("matches(0) without the torn piece", x.matches(0), 1 << 6);
        HosieryPlant y = loaded(KEEP + "piece a plain 1000 100 times 3;");
        due("isMatch(0, 1) of raw pieces", y.isMatch(0, 1), 0);
        y.board(0, 0);
        due("isMatch(0, 1) of one raw piece", y.isMatch(0, 1), 0);
        y.board(2, 0);
        due("matches(0)", y.matches(0), 4);
        due("matches(1) of a raw piece", y.matches(1), 0);
    }

    private static void checkGap() {
        HosieryPlant x = loaded(KEEP + "piece a plain 1000 100;piece b lace 1030 95;piece a plain 9999 255;");
        due("gap(0, 1)", x.gap(0, 1), 80);
        due("gap(1, 0)", x.gap(1, 0), 80);
        due("gap(0, 2)", x.gap(0, 2), 10549);
        due("gap(1, 1)", x.gap(1, 1), HosieryPlant.INVALID);
        due("gap(3, 0)", x.gap(3, 0), HosieryPlant.INVALID);
        due("gap(0, 3)", x.gap(0, 3), HosieryPlant.INVALID);
        due("gap(-1, 0)", x.gap(-1, 0), HosieryPlant.INVALID);
        due("gap(0, -1)", x.gap(0, -1), HosieryPlant.INVALID);
        due("gap(greatest, least)", x.gap(Integer.MAX_VALUE, Integer.MIN_VALUE), HosieryPlant.INVALID);
    }

    private static void checkNearest() {
        HosieryPlant x = boarded("piece a plain 1000 100;piece a plain 1020 100;piece a plain 1000 102;piece a plain 980 100;"
                + "piece b plain 1000 100;piece a plain 1011 100;");
        due("nearest(0)", x.nearest(0), 5);
        x.dye(5, 101);
        due("nearest(0) among equals", x.nearest(0), 1);
        due("nearest(4)", x.nearest(4), HosieryPlant.NONE);
        due("nearest(3)", x.nearest(3), 0);
        due("nearest(6)", x.nearest(6), HosieryPlant.INVALID);
        due("nearest(-1)", x.nearest(-1), HosieryPlant.INVALID);
        due("nearest of a raw piece", loaded(KEEP + "piece a plain 1000 1 times 2;").nearest(0), HosieryPlant.NONE);
    }

    private static void checkBestPairing() {
        partnersDue("none", new HosieryPlant());
        partnersDue("one", withLengths("", 1000), -1);
        partnersDue("two", withLengths("", 1000, 1030), 1, 0);
        partnersDue("two too far", withLengths("", 1000, 1031), -1, -1);
        partnersDue("raw", loaded(KEEP + "piece a plain 1000 1 times 2;"), -1, -1);
        // More pairs win over smaller gaps.
        partnersDue("chain", withLengths("", 1000, 1030, 1030, 1060), 1, 0, 3, 2);
        partnersDue("chain mixed", withLengths("", 1030, 1000, 1060, 1030), 1, 0, 3, 2);
        partnersDue("chain of five", withLengths("", 1000, 1030, 1030, 1060, 1080), -1, 2, 1, 4, 3);
        // Smaller gaps win over lower partners.
        partnersDue("gaps", withLengths("", 1000, 1010, 1001, 1011), 2, 3, 0, 1);
        partnersDue("gaps leave piece 0 alone", withLengths("", 1000, 1002, 1003), -1, 2, 1);
        partnersDue("the sum counts", withLengths("", 1000, 1005, 1006, 1020), 1, 0, 3, 2);
        // Among equal sums each piece in turn gets its lowest partner, and any partner rather than none.
        partnersDue("equal three", withLengths("", 1000, 1000, 1000), 1, 0, -1);
        partnersDue("equal four", withLengths("", 1000, 1000, 1000, 1000), 1, 0, 3, 2);
        partnersDue("equal sides", withLengths("", 1000, 1001, 1002), 1, 0, -1);
        partnersDue("equal sides, the middle first", withLengths("", 1001, 1000, 1002), 1, 0, -1);
        partnersDue("equal sides, the middle last", withLengths("", 1000, 1002, 1001), 2, -1, 0);
        partnersDue("crossed sums", withLengths("", 1000, 1001, 1002, 1003), 1, 0, 3, 2);
        partnersDue("square", boarded("piece a plain 1000 100;piece a plain 1010 101;piece a plain 1010 100;piece a plain 1000 101;"),
                2, 3, 0, 1);
        partnersDue("kinds", boarded("piece a plain 1000 1;piece a lace 1000 1;piece b plain 1000 1;piece a lace 1000 1;piece b plain 1000 1;piece a plain 1000 1;"),
                5, 3, 4, 1, 2, 0);
        HosieryPlant x = withLengths("", 1000, 1010, 1020, 1030);
        partnersDue("before", x, 1, 0, 3, 2);
        x.setTolerance(5, 0);
        partnersDue("after setTolerance", x, -1, -1, -1, -1);
        x.undo();
        partnersDue("after undo", x, 1, 0, 3, 2);
        x.dye(1, 107);
        partnersDue("after dye", x, -1, -1, 3, 2);
    }

    private static void checkFullPlant() {
        HosieryPlant x = boarded("piece a plain 1000 100 times 14;");
        partnersDue("fourteen", x, 1, 0, 3, 2, 5, 4, 7, 6, 9, 8, 11, 10, 13, 12);
        partnersDue("thirteen", boarded("piece a plain 1000 100 times 13;"), 1, 0, 3, 2, 5, 4, 7, 6, 9, 8, 11, 10, -1);
        partnersDue("a ladder", withLengths("tolerance 500 255;", 1013, 1012, 1011, 1010, 1009, 1008, 1007, 1006, 1005, 1004, 1003, 1002, 1001, 1000),
                1, 0, 3, 2, 5, 4, 7, 6, 9, 8, 11, 10, 13, 12);
        partnersDue("two heaps", withLengths("tolerance 500 255;", 1000, 2000, 1001, 2001, 1002, 2002, 1003, 2003, 1004, 2004, 1005, 2005, 1006, 2006),
                2, 3, 0, 1, 6, 7, 4, 5, 10, 11, 8, 9, -1, -1);
        HosieryPlant wide = boarded("tolerance 500 255;piece a plain 1000 0 times 7;piece a plain 1500 255 times 7;");
        due("pairCount() of wide gaps", wide.pairCount(), 7);
        due("pairGap() of wide gaps", wide.pairGap(), 3050);
        due("partner(6)", wide.partner(6), 7);
    }

    /** Fourteen pieces of mixed lengths and shades; the partners were found by trying every pairing there is. */
    private static void checkKnownPairings() {
        known("12 3", new int[] {1055, 1018, 1026, 1061, 1047, 1000, 1040, 1011, 1061, 1000, 1007, 1003, 1026, 1040},
                new int[] {100, 102, 104, 100, 104, 100, 100, 107, 100, 102, 101, 100, 102, 100}, 28,
                -1, 12, -1, 8, -1, 11, 13, -1, 3, 10, 9, 5, 1, 6);
        known("20 4", new int[] {1007, 1055, 1055, 1040, 1007, 1007, 1000, 1000, 1011, 1011, 1007, 1007, 1018, 1026},
                new int[] {100, 104, 107, 107, 100, 100, 107, 100, 102, 101, 100, 101, 102, 100}, 52,
                4, -1, 3, 2, 0, 7, -1, 5, 12, 11, 13, 9, 8, 10);
        known("12 3", new int[] {1018, 1003, 1026, 1018, 1055, 1055, 1000, 1055, 1061, 1026, 1003, 1018, 1026, 1018},
                new int[] {102, 107, 101, 100, 102, 102, 107, 100, 100, 101, 100, 107, 101, 102}, 27,
                13, 6, 3, 2, 5, 4, 1, 8, 7, 12, -1, -1, 9, 0);
        known("20 4", new int[] {1047, 1031, 1026, 1031, 1055, 1000, 1040, 1000, 1007, 1055, 1011, 1003, 1011, 1040},
                new int[] {101, 104, 101, 104, 101, 102, 100, 104, 107, 101, 101, 100, 102, 100}, 107,
                6, 3, 13, 1, 9, 12, 0, 8, 7, 4, 11, 10, 5, 2);
        known("12 3", new int[] {1026, 1047, 1055, 1026, 1007, 1026, 1018, 1047, 1003, 1018, 1061, 1026, 1018, 1007},
                new int[] {100, 107, 100, 107, 107, 101, 102, 100, 107, 100, 100, 104, 104, 102}, 97,
                9, -1, 10, 11, 8, 6, 5, -1, 4, 0, 2, 3, 13, 12);
        known("20 4", new int[] {1011, 1055, 1026, 1018, 1040, 1061, 1031, 1007, 1000, 1061, 1000, 1040, 1026, 1011},
                new int[] {100, 107, 104, 100, 107, 102, 100, 100, 102, 101, 100, 100, 102, 101}, 89,
                3, 4, 12, 0, 1, 9, 11, 10, 13, 5, 7, 6, 2, 8);
    }

    private static void known(String tolerances, int[] lengths, int[] shades, int gapSum, int... partners) {
        StringBuilder text = new StringBuilder("tolerance ").append(tolerances).append(';');
        for (int i = 0; i < lengths.length; i++) {
            text.append("piece a plain ").append(lengths[i]).append(' ').append(shades[i]).append(';');
        }
        HosieryPlant x = boarded(text.toString());
        due("pairGap() of " + text, x.pairGap(), gapSum);
        partnersDue(text.toString(), x, partners);
    }

    private static void checkPairCalls() {
        HosieryPlant x = withLengths("", 1000, 2000, 2001, 1001, 3000);
        due("pair(0)", x.pair(0), 3);
        due("pair(1)", x.pair(1), 18);
        due("pair(2)", x.pair(2), HosieryPlant.NONE);
        due("pair(greatest)", x.pair(Integer.MAX_VALUE), HosieryPlant.NONE);
        due("pair(-1)", x.pair(-1), HosieryPlant.INVALID);
        due("partner(4)", x.partner(4), HosieryPlant.NONE);
        due("partner(5)", x.partner(5), HosieryPlant.INVALID);
        due("partner(-1)", x.partner(-1), HosieryPlant.INVALID);
        due("pair(6) of fourteen", boarded("piece a plain 1000 100 times 14;").pair(6), 16 * 12 + 13);
    }

    private static void checkPairSize() {
        HosieryPlant x = withLengths("size a 900 1009;size b 1005 1010;size c 900 1100;size d 2000 2010;",
                1000, 1009, 2000, 2011, 1006, 1010, 3000, 3000);
        partnersDue("sizes", x, 4, 5, 3, 2, 0, 1, 7, 6);
        due("pairSize(0)", x.pairSize(0), 0);
        due("pairSize(1) holds both", x.pairSize(1), 1);
        due("pairSize(2) holds one only", x.pairSize(2), HosieryPlant.NONE);
        due("pairSize(3)", x.pairSize(3), HosieryPlant.NONE);
        due("pairSize(4)", x.pairSize(4), HosieryPlant.NONE);
        due("pairSize(-1)", x.pairSize(-1), HosieryPlant.INVALID);
        HosieryPlant y = withLengths("size a 900 1000;size b 1001 1010;size c 900 1010;", 1001, 1000);
        due("pairSize(0) over two sizes", y.pairSize(0), 2);
    }

    private static void checkWorstPair() {
        due("worstPair() of none", new HosieryPlant().worstPair(), HosieryPlant.NONE);
        due("worstPair() of raw pieces", loaded(KEEP + "piece a plain 1000 1 times 2;").worstPair(), HosieryPlant.NONE);
        due("worstPair()", withLengths("", 1000, 1001, 2000, 2005, 3000, 3005).worstPair(), 1);
        due("worstPair() of equals", withLengths("", 1000, 1000, 2000, 2000).worstPair(), 0);
        due("worstPair()", withLengths("", 1000, 1001, 2000, 2005, 3000, 3007).worstPair(), 2);
    }

    private static void checkSeconds() {
        due("seconds() of none", new HosieryPlant().seconds(), 0);
        HosieryPlant x = loaded(KEEP + "shape t 9999;piece a plain 1000 1 times 4;piece a plain 2000 1;piece a plain 1500 1;");
        due("seconds() of raw pieces", x.seconds(), 0);
        x.board(5, 1);
        due("seconds() with a torn piece", x.seconds(), 32);
        x.board(0, 0);
        due("seconds() with one boarded", x.seconds(), 33);
        x.board(1, 0);
        due("seconds() with a pair", x.seconds(), 32);
        x.board(2, 0);
        x.board(4, 0);
        due("seconds() with two more", x.seconds(), 32 | 4 | 16);
        HosieryPlant y = boarded("box 1;size z 500 9999;piece a plain 1000 1 times 3;");
        due("seconds() before packing", y.seconds(), 4);
        y.pack();
        due("seconds() after packing", y.seconds(), 4);
    }

    private static void checkGroups() {
        due("groupCount() of none", new HosieryPlant().groupCount(), 0);
        HosieryPlant x = withLengths("", 1090, 2000, 1060, 1030, 2031, 1000, 1000);
        due("groupCount()", x.groupCount(), 3);
        int[] groups = {0, 1, 0, 0, 4, 0, 0};
        for (int i = 0; i < groups.length; i++) {
            due("groupOf(" + i + ")", x.groupOf(i), groups[i]);
        }
        due("groupOf(7)", x.groupOf(7), HosieryPlant.INVALID);
        due("groupOf(-1)", x.groupOf(-1), HosieryPlant.INVALID);
        HosieryPlant y = loaded(KEEP + "piece a plain 1000 1 times 3;");
        due("groupOf(0) of a raw piece", y.groupOf(0), HosieryPlant.WRONG_STATE);
        due("groupCount() of raw pieces", y.groupCount(), 0);
        y.board(1, 0);
        y.board(2, 0);
        due("groupOf(2)", y.groupOf(2), 1);
        due("groupCount()", y.groupCount(), 1);
        HosieryPlant ladder = withLengths("", 1000, 1390, 1030, 1360, 1060, 1330, 1090, 1300, 1120, 1270, 1150, 1240, 1180, 1210);
        due("groupCount() of a ladder", ladder.groupCount(), 1);
        due("groupOf(1) in a ladder", ladder.groupOf(1), 0);
    }

    private static void checkPack() {
        HosieryPlant x = new HosieryPlant();
        due("boxCount() of none", x.boxCount(), 0);
        due("pack() of none", x.pack(), HosieryPlant.NONE);
        due("undoCount()", x.undoCount(), 0);
        for (int box = 1; box <= 6; box++) {
            HosieryPlant y = boarded("box " + box + ";size z 500 9999;piece a plain 1000 100 times 14;");
            due("boxCount() of seven pairs by " + box, y.boxCount(), 7 / box);
            due("pack() of seven pairs by " + box, y.pack(), 7 / box);
            due("inState(3) by " + box, y.inState(3), (1 << 7 / box * box * 2) - 1);
            due("undoCount()", y.undoCount(), 3);
            due("pack() again by " + box, y.pack(), HosieryPlant.NONE);
            due("undoCount()", y.undoCount(), 3);
            due("pairCount() of the rest", y.pairCount(), 7 % box);
        }
        HosieryPlant small = boarded("size z 500 9999;piece a plain 1000 100 times 3;");
        due("boxCount() of one pair by 2", small.boxCount(), 0);
        due("pack() of one pair by 2", small.pack(), HosieryPlant.NONE);
        HosieryPlant sizeless = boarded("box 1;size z 500 999;piece a plain 1000 100 times 4;");
        due("pack() of pairs without a size", sizeless.pack(), HosieryPlant.NONE);
        due("inState(1)", sizeless.inState(1), 15);
    }

    private static void checkPackGroups() {
        // Two pairs of each of four groups that differ in yarn, kind or size, and a third pair in one of them.
        String sizes = "size s 1000 1099;size t 1100 1199;";
        String group = "piece a plain 1000 100;piece b plain 1000 100;piece a lace 1000 100;piece a plain 1150 100;";
        HosieryPlant one = boarded("box 1;" + sizes + group + group);
        due("boxCount() by 1", one.boxCount(), 4);
        HosieryPlant two = boarded("box 2;" + sizes + group + group + "piece a plain 1001 100 times 2;");
        due("boxCount() by 2", two.boxCount(), 1);
        due("pack() by 2", two.pack(), 1);
        due("inState(3)", two.inState(3), 1 | 1 << 4 | 1 << 8 | 1 << 9);
        // The first pairs by their lower piece are packed.
        HosieryPlant x = withLengths("box 2;" + sizes, 1080, 1000, 1040, 1001, 1041, 1081);
        partnersDue("before packing", x, 5, 3, 4, 1, 2, 0);
        due("pack()", x.pack(), 1);
        due("inState(3)", x.inState(3), 1 | 1 << 5 | 1 << 1 | 1 << 3);
        partnersDue("after packing", x, -1, -1, 4, -1, 2, -1);
        // A pair without a size takes no place in its group.
        HosieryPlant y = withLengths("box 2;" + sizes, 3000, 3000, 1000, 1000, 1050, 1050, 1099, 1100);
        due("pack()", y.pack(), 1);
        due("inState(3)", y.inState(3), 15 << 2);
        due("day() leaves packed pieces", y.day(), 0);
    }
}
