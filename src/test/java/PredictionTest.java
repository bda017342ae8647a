/** Promises 51 to 57, 61 and 64: predictions, which change nothing. */
public final class PredictionTest {
    private static int wrong = 0;

    private static void due(String call, int got, int want) {
        if (got != want) {
            wrong++;
            System.out.println(call + " answered " + got + ", due is " + want);
        }
    }

    private static HosieryPlant loaded(String text) {
        HosieryPlant x = new HosieryPlant();
        for (int i = 0; i < text.length(); i += 20) {
            int[] words = new int[5];
            for (int j = 0; j < 20; j++) {
                int sign = i + j < text.length() ? text.charAt(i + j) : ' ';
                words[j / 4] = words[j / 4] << 8 | sign;
            }
            x.append(words[0], words[1], words[2], words[3], words[4]);
        }
        x.truncate(text.length());
        if (x.load() < 0) {
            due("load of <" + text + ">", x.errorCode(), 0);
        }
        return x;
    }

    public static void main(String[] args) {
        checkDays();
        checkDaysToSize();
        checkAllBoarded();
        checkLeastSteam();
        checkTolerance();
        checkBestDye();
        checkNothingChanges();
        System.exit(wrong == 0 ? 0 : 1);
    }

    /** Two pieces that are boarded to the same length and part day by day. */
    private static HosieryPlant parting() {
        HosieryPlant x = loaded("tolerance 30 6;steam 100;yarn a 50 10;shape s 1200;"
                + "piece a plain 1000 5;piece a plain 1100 5;piece a plain 1900 5;");
        x.board(0, 0);
        x.board(1, 0);
        return x;
    }

    private static void checkDays() {
        HosieryPlant x = parting();
        // Lengths by day: 1200 1180 1162 1146 1132 and 1200 1190 1181 1173 1166.
        int[] pairs = {1, 1, 1, 1, 0};
        for (int i = 0; i < pairs.length; i++) {
            due("ifDays(" + i + ")", x.ifDays(i), pairs[i]);
        }
        due("bestDay(60)", x.bestDay(60), 0);
        due("bestDay(0)", x.bestDay(0), 0);
        for (int days : new int[] {-1, 61, Integer.MAX_VALUE, Integer.MIN_VALUE}) {
            due("ifDays(" + days + ")", x.ifDays(days), HosieryPlant.INVALID);
            due("bestDay(" + days + ")", x.bestDay(days), HosieryPlant.INVALID);
        }
        due("days()", x.days(), 0);
        due("length(0)", x.length(0), 1200);
        // Two pieces of equal knitted length that approach each other: 1200 and 1100 by day
        // 1180 1090, 1162 1081, 1146 1073, 1132 1066, 1119 1060, 1108 1054.
        HosieryPlant y = loaded("tolerance 54 6;steam 100;yarn a 50 10;shape s 1200;shape t 1100;piece a plain 1000 5 times 2;");
        y.board(0, 0);
        y.board(1, 1);
        due("ifDays(5)", y.ifDays(5), 0);
        due("ifDays(6)", y.ifDays(6), 1);
        due("bestDay(5)", y.bestDay(5), 0);
        due("bestDay(6)", y.bestDay(6), 6);
        due("bestDay(60)", y.bestDay(60), 6);
        due("ifDays(60)", y.ifDays(60), 1);
        y.day();
        due("bestDay(5) a day later", y.bestDay(5), 5);
        due("bestDay(4) a day later", y.bestDay(4), 0);
        HosieryPlant none = new HosieryPlant();
        due("ifDays(60) of none", none.ifDays(60), 0);
        due("bestDay(60) of none", none.bestDay(60), 0);
    }

    private static void checkDaysToSize() {
        HosieryPlant x = loaded("steam 100;yarn a 50 1;shape s 1200;size u 1191 1200;size v 1100 1195;size w 1110 1150;size m 1152 1153;size n 500 600;"
                + "piece a plain 1000 5;piece a plain 1120 5;");
        due("daysToSize(1, 1) of a raw piece", x.daysToSize(1, 1), 0);
        due("daysToSize(1, 2) hidden by a lower size", x.daysToSize(1, 2), HosieryPlant.NONE);
        due("daysToSize(1, 0) of a raw piece", x.daysToSize(1, 0), HosieryPlant.NONE);
        x.board(0, 0);
        due("daysToSize(0, 0)", x.daysToSize(0, 0), 0);
        // Lengths by day: 1200 1198 1197 1196 1195 1194 1193 1192 1191 1190.
        due("daysToSize(0, 1)", x.daysToSize(0, 1), 9);
        due("daysToSize(0, 2)", x.daysToSize(0, 2), HosieryPlant.NONE);
        due("daysToSize(0, 4)", x.daysToSize(0, 4), HosieryPlant.NONE);
        due("daysToSize(0, 5)", x.daysToSize(0, 5), HosieryPlant.INVALID);
        due("daysToSize(0, -1)", x.daysToSize(0, -1), HosieryPlant.INVALID);
        due("daysToSize(2, 0)", x.daysToSize(2, 0), HosieryPlant.INVALID);
        due("daysToSize(-1, 0)", x.daysToSize(-1, 0), HosieryPlant.INVALID);
        due("length(0)", x.length(0), 1200);
        // The length falls by 1 a day from day 1 on (1198), so it is 1139 on day 60 and 1138 on day 61.
        HosieryPlant sixty = loaded("steam 100;yarn a 50 1;shape s 1200;size u 500 1139;piece a plain 1000 5;");
        sixty.board(0, 0);
        due("daysToSize at day 60", sixty.daysToSize(0, 0), 60);
        HosieryPlant late = loaded("steam 100;yarn a 50 1;shape s 1200;size u 500 1138;piece a plain 1000 5;");
        late.board(0, 0);
        due("daysToSize at day 61", late.daysToSize(0, 0), HosieryPlant.NONE);
        late.day();
        due("daysToSize a day later", late.daysToSize(0, 0), 60);
    }

    private static void checkAllBoarded() {
        HosieryPlant x = loaded("tolerance 10 6;steam 90;yarn a 20 0;yarn b 30 0;shape s 1250;shape t 1100;shape u 1150;shape v 3000;"
                + "piece a plain 1000 5;piece a plain 1100 5;piece b plain 1000 5;piece b plain 1080 5;");
        due("ifAllBoarded(0)", x.ifAllBoarded(0), 1);
        due("ifAllBoarded(1)", x.ifAllBoarded(1), 2);
        due("ifAllBoarded(2)", x.ifAllBoarded(2), 2);
        due("ifAllBoarded(3)", x.ifAllBoarded(3), 0);
        due("ifAllBoarded(4)", x.ifAllBoarded(4), HosieryPlant.INVALID);
        due("ifAllBoarded(-1)", x.ifAllBoarded(-1), HosieryPlant.INVALID);
        due("bestShape()", x.bestShape(), 1);
        due("inState(0)", x.inState(0), 15);
        x.board(0, 1);
        due("ifAllBoarded(3) with one boarded", x.ifAllBoarded(3), 0);
        due("ifAllBoarded(1) with one boarded", x.ifAllBoarded(1), 2);
        x.boardAll(2);
        due("ifAllBoarded(3) without raw pieces", x.ifAllBoarded(3), x.pairCount());
        due("bestShape() without raw pieces", x.bestShape(), 0);
        due("bestShape() without shapes", loaded("yarn a 5 5;piece a plain 1000 5 times 2;").bestShape(), HosieryPlant.NONE);
        due("bestShape() without pieces", loaded("shape s 500;shape t 500;").bestShape(), 0);
    }

    private static void checkLeastSteam() {
        HosieryPlant x = loaded("tolerance 10 6;steam 0;yarn a 50 0;shape s 1200;shape t 3000;"
                + "piece a plain 1000 5;piece a plain 1100 5;piece a plain 1012 99;piece a plain 1000 99;");
        // The difference of 0 and 1 after boarding is 100 - strength, that of 2 and 3 about 12 less 12 percent of it.
        due("leastSteam(0, 2)", x.leastSteam(0, 2), 90);
        due("leastSteam(0, 1)", x.leastSteam(0, 1), 9);
        due("leastSteam(0, 3)", x.leastSteam(0, 3), HosieryPlant.NONE);
        due("leastSteam(0, 7)", x.leastSteam(0, 7), HosieryPlant.NONE);
        due("leastSteam(1, 1) that tears all", x.leastSteam(1, 1), HosieryPlant.NONE);
        due("leastSteam(0, 0)", x.leastSteam(0, 0), HosieryPlant.INVALID);
        due("leastSteam(0, 8)", x.leastSteam(0, 8), HosieryPlant.INVALID);
        due("leastSteam(2, 1)", x.leastSteam(2, 1), HosieryPlant.INVALID);
        due("leastSteam(-1, 1)", x.leastSteam(-1, 1), HosieryPlant.INVALID);
        due("steam()", x.steam(), 0);
        HosieryPlant full = loaded("tolerance 0 6;yarn a 50 0;shape s 1200;piece a plain 1000 5;piece a plain 1199 5;");
        due("leastSteam at 100", full.leastSteam(0, 1), 100);
        full.setTolerance(1, 6);
        due("leastSteam below 100", full.leastSteam(0, 1), 99);
        full.setTolerance(199, 6);
        due("leastSteam at 0", full.leastSteam(0, 1), 0);
    }

    private static void checkTolerance() {
        HosieryPlant x = loaded("tolerance 10 6;steam 0;yarn a 50 0;shape s 500;piece a plain 1000 5;piece a plain 1500 5;"
                + "piece a plain 3000 5;piece a plain 3501 5;piece a plain 5000 5;piece a plain 5000 12;piece a plain 7000 5;piece a plain 7123 11;");
        x.boardAll(0);
        due("ifTolerance(122, 6)", x.ifTolerance(122, 6), 0);
        due("ifTolerance(123, 6)", x.ifTolerance(123, 6), 1);
        due("ifTolerance(123, 5)", x.ifTolerance(123, 5), 0);
        due("ifTolerance(0, 7)", x.ifTolerance(0, 7), 1);
        due("ifTolerance(500, 255)", x.ifTolerance(500, 255), 3);
        due("ifTolerance(0, 0)", x.ifTolerance(0, 0), 0);
        due("ifTolerance(501, 0)", x.ifTolerance(501, 0), HosieryPlant.INVALID);
        due("ifTolerance(-1, 0)", x.ifTolerance(-1, 0), HosieryPlant.INVALID);
        due("ifTolerance(0, 256)", x.ifTolerance(0, 256), HosieryPlant.INVALID);
        due("ifTolerance(0, -1)", x.ifTolerance(0, -1), HosieryPlant.INVALID);
        due("leastTolerance(1)", x.leastTolerance(1), 123);
        due("leastTolerance(2)", x.leastTolerance(2), 500);
        due("leastTolerance(3)", x.leastTolerance(3), HosieryPlant.NONE);
        due("leastTolerance(7)", x.leastTolerance(7), HosieryPlant.NONE);
        due("leastTolerance(0)", x.leastTolerance(0), HosieryPlant.INVALID);
        due("leastTolerance(8)", x.leastTolerance(8), HosieryPlant.INVALID);
        x.setTolerance(10, 7);
        due("leastTolerance(1) with another shade tolerance", x.leastTolerance(1), 0);
        due("lengthTolerance()", x.lengthTolerance(), 10);
        due("shadeTolerance()", x.shadeTolerance(), 7);
        due("leastTolerance(1) of raw pieces", loaded("yarn a 5 5;piece a plain 900 5 times 2;").leastTolerance(1), HosieryPlant.NONE);
    }

    private static HosieryPlant shaded(int tolerance, int... shades) {
        StringBuilder text = new StringBuilder("steam 0;yarn a 50 0;shape s 500;shape t 9999;tolerance 30 ");
        text.append(tolerance).append(';');
        for (int shade : shades) {
            text.append("piece a plain 1000 ").append(shade).append(';');
        }
        HosieryPlant x = loaded(text.toString());
        x.boardAll(0);
        return x;
    }

    private static void checkBestDye() {
        due("bestDye up", shaded(6, 100, 150).bestDye(0), 144);
        due("bestDye down", shaded(6, 100, 150).bestDye(1), 106);
        due("bestDye stays", shaded(6, 100, 106).bestDye(0), 100);
        due("bestDye alone stays", shaded(6, 100).bestDye(0), 100);
        due("bestDye of two the lower", shaded(6, 100, 80, 120).bestDye(0), 86);
        due("bestDye of two the nearer", shaded(6, 100, 80, 119).bestDye(0), 113);
        due("bestDye to the end", shaded(0, 100, 255).bestDye(0), 255);
        due("bestDye to the start", shaded(0, 100, 0).bestDye(0), 0);
        // Pieces 1 and 2 are a pair already: only piece 3 makes one more.
        due("bestDye past a pair", shaded(6, 100, 110, 111, 200).bestDye(0), 194);
        // Beside 1, 2 and 3 any place makes a second pair.
        due("bestDye into three", shaded(6, 100, 110, 111, 112).bestDye(0), 104);
        HosieryPlant x = shaded(6, 100, 150, 200);
        due("bestDye(3)", x.bestDye(3), HosieryPlant.INVALID);
        due("bestDye(-1)", x.bestDye(-1), HosieryPlant.INVALID);
        due("shade(0)", x.shade(0), 100);
        x.board(2, 1);
        due("bestDye of a torn piece", x.bestDye(2), HosieryPlant.WRONG_STATE);
        due("bestDye past a torn piece", x.bestDye(1), 106);
        due("bestDye of a raw piece", loaded("yarn a 5 5;piece a plain 900 5 times 2;").bestDye(0), HosieryPlant.WRONG_STATE);
    }

    private static void checkNothingChanges() {
        HosieryPlant x = parting();
        due("pairCount()", x.pairCount(), 1);
        x.ifDays(60);
        x.bestDay(60);
        x.daysToSize(0, 0);
        x.ifAllBoarded(0);
        x.bestShape();
        x.leastSteam(0, 7);
        x.leastTolerance(7);
        x.ifTolerance(0, 0);
        x.bestDye(0);
        x.ifBoarded(2, 0);
        x.shapeFor(2, 1000);
        due("partner(0)", x.partner(0), 1);
        due("length(0)", x.length(0), 1200);
        due("length(1)", x.length(1), 1200);
        due("shade(0)", x.shade(0), 5);
        due("inState(0)", x.inState(0), 4);
        due("steam()", x.steam(), 100);
        due("lengthTolerance()", x.lengthTolerance(), 30);
        due("shadeTolerance()", x.shadeTolerance(), 6);
        due("days()", x.days(), 0);
        due("undoCount()", x.undoCount(), 3);
    }
}
