/** Promises 12 and 58 to 60: undo and writing. */
public final class UndoTest {
    private static final String PLANT = "tolerance 12 3;steam 50;box 1;yarn a 50 10;shape s 1200;shape t 9999;size z 500 9999;"
            + "piece a plain 1000 5 times 2;piece a lace 1100 6;";
    private static int wrong = 0;

    private static void due(String call, int got, int want) {
        if (got != want) {
            wrong++;
            System.out.println(call + " answered " + got + ", due is " + want);
        }
    }

    private static void due(String call, String got, String want) {
        if (!got.equals(want)) {
            wrong++;
            System.out.println(call + " answered <" + got + ">, due is <" + want + ">");
        }
    }

    private static void type(HosieryPlant x, String text) {
        for (int i = 0; i < text.length(); i += 20) {
            int[] words = new int[5];
            for (int j = 0; j < 20; j++) {
                int sign = i + j < text.length() ? text.charAt(i + j) : ' ';
                words[j / 4] = words[j / 4] << 8 | sign;
            }
            x.append(words[0], words[1], words[2], words[3], words[4]);
        }
        x.truncate(text.length());
    }

    private static HosieryPlant loaded(String text) {
        HosieryPlant x = new HosieryPlant();
        type(x, text);
        if (x.load() < 0) {
            due("load of <" + text + ">", x.errorCode(), 0);
        }
        return x;
    }

    private static String written(HosieryPlant x) {
        int length = x.writePlant();
        StringBuilder text = new StringBuilder();
        for (int i = 0; i < length; i++) {
            text.append((char) x.outputByte(i));
        }
        due("outputByte(length)", x.outputByte(length), HosieryPlant.NONE);
        due("outputByte(-1)", x.outputByte(-1), HosieryPlant.NONE);
        due("outputByte(greatest)", x.outputByte(Integer.MAX_VALUE), HosieryPlant.NONE);
        return text.toString();
    }

    private static String part(HosieryPlant x, int from, int to) {
        int length = x.writePlant();
        due("the byte after the last", x.outputByte(length), HosieryPlant.NONE);
        StringBuilder text = new StringBuilder();
        for (int i = from; i < to && i < length; i++) {
            text.append((char) x.outputByte(i));
        }
        return text.toString();
    }

    /** All that undo() brings back, as far as questions show it. */
    private static String seen(HosieryPlant x) {
        StringBuilder text = new StringBuilder("tolerance ").append(x.lengthTolerance()).append(' ').append(x.shadeTolerance());
        text.append(" steam ").append(x.steam()).append(" days ").append(x.days()).append(" shapes ").append(x.shapeCount());
        for (int i = 0; i < x.pieceCount(); i++) {
            text.append(' ').append(x.state(i)).append(':').append(x.length(i)).append(':').append(x.shade(i));
            text.append(':').append(x.partner(i));
        }
        return text.toString();
    }

    public static void main(String[] args) {
        checkNothing();
        checkEachCall();
        checkUnchanging();
        checkTen();
        checkBuffersStay();
        checkWrite();
        checkWriteLongest();
        System.exit(wrong == 0 ? 0 : 1);
    }

    private static void checkNothing() {
        HosieryPlant x = new HosieryPlant();
        due("undo() of nothing", x.undo(), HosieryPlant.NONE);
        x.load();
        due("undo()", x.undo(), 0);
        due("undo() again", x.undo(), HosieryPlant.NONE);
    }

    private static void change(HosieryPlant x, int way) {
        switch (way) {
            case 0: x.boardAll(0); break;
            case 1: x.day(); break;
            case 2: x.dye(0, 8); break;
            case 3: x.setTolerance(0, 0); break;
            case 4: x.setTolerance(12, 4); break;
            case 5: x.setSteam(99); break;
            case 6: x.board(2, 0); break;
            case 7: x.board(2, 1); break;
            case 8: x.pack(); break;
            default: type(x, "box 3;yarn b 5 5;"); x.load(); break;
        }
    }

    private static void checkEachCall() {
        for (int way = 0; way <= 9; way++) {
            HosieryPlant x = loaded(PLANT);
            if (way == 1 || way == 8) {
                x.boardAll(0);
            }
            String before = seen(x);
            int count = x.undoCount();
            change(x, way);
            due("undoCount() after change " + way, x.undoCount(), count + 1);
            due("change " + way + " shows", seen(x).equals(before) ? 0 : 1, 1);
            due("undo() of change " + way, x.undo(), count);
            due("undoCount() after undo", x.undoCount(), count);
            due("seen after undo of change " + way, seen(x), before);
            due("written after undo of change " + way, written(x), written(loaded(PLANT)));
        }
    }

    private static void checkUnchanging() {
        HosieryPlant x = loaded(PLANT);
        x.boardAll(0);
        x.board(2, 1);
        int count = x.undoCount();
        x.boardAll(0);
        x.board(2, 0);
        x.board(9, 9);
        x.dye(0, 5);
        x.dye(0, 256);
        x.setTolerance(12, 3);
        x.setTolerance(-1, 0);
        x.setSteam(50);
        x.setSteam(101);
        x.boxCount();
        x.writePlant();
        x.ifDays(9);
        x.append(0, 0, 0, 0, 0);
        x.truncate(3);
        x.find(1);
        type(x, "wrong");
        x.load();
        due("undoCount()", x.undoCount(), count);
        x.setSteam(100);
        x.board(0, 0);
        count = x.undoCount();
        due("board that changes nothing", x.board(0, 0), 1);
        due("undoCount()", x.undoCount(), count);
        HosieryPlant empty = new HosieryPlant();
        empty.pack();
        due("undoCount() after a pack of nothing", empty.undoCount(), 0);
        empty.day();
        due("undoCount() after a day of nothing", empty.undoCount(), 1);
        due("undo()", empty.undo(), 0);
        due("days()", empty.days(), 0);
    }

    private static void checkTen() {
        HosieryPlant x = new HosieryPlant();
        for (int i = 1; i <= 25; i++) {
            x.setSteam(i);
            due("undoCount()", x.undoCount(), Math.min(i, 10));
        }
        for (int i = 9; i >= 5; i--) {
            due("undo()", x.undo(), i);
            due("steam()", x.steam(), 15 + i);
        }
        x.setSteam(77);
        due("undoCount()", x.undoCount(), 6);
        for (int i = 5; i >= 0; i--) {
            due("undo()", x.undo(), i);
            due("steam()", x.steam(), 15 + i);
        }
        due("undo() of nothing more", x.undo(), HosieryPlant.NONE);
        due("steam()", x.steam(), 15);
    }

    private static void checkBuffersStay() {
        HosieryPlant x = loaded(PLANT);
        type(x, "box 9");
        x.load();
        x.writePlant();
        type(x, "abcd");
        x.undo();
        due("errorCode()", x.errorCode(), 2);
        due("errorPosition()", x.errorPosition(), 4);
        due("truncate(5)", x.truncate(5), HosieryPlant.NONE);
        due("truncate(4)", x.truncate(4), 4);
        due("outputByte(0)", x.outputByte(0), 't');
        due("outputByte(100)", x.outputByte(100) > 0 ? 1 : 0, 1);
        due("pieceCount()", x.pieceCount(), 0);
    }

    private static void checkWrite() {
        due("the empty plant", written(new HosieryPlant()), "tolerance 30 6;steam 60;box 2;");
        HosieryPlant x = loaded(PLANT);
        String text = "yarn a 50 10;shape s 1200;shape t 9999;size z 500 9999;";
        due("a plant", written(x), "tolerance 12 3;steam 50;box 1;" + text
                + "piece a plain 1000 5;piece a plain 1000 5;piece a lace 1100 6;");
        x.setTolerance(0, 255);
        x.setSteam(0);
        x.dye(1, 200);
        x.setSteam(100);
        x.board(0, 0);
        x.board(2, 1);
        x.day();
        due("a changed plant", written(x), "tolerance 0 255;steam 100;box 1;" + text
                + "piece a plain 1000 5;piece a plain 1000 200;piece a lace 1100 6;");
        due("outputByte(0)", x.outputByte(0), 't');
        // The output is a copy of the plant as it was; the next one replaces it.
        x.setSteam(1);
        due("outputByte of the old text", x.outputByte(22), '1');
        due("outputByte of the old text", x.outputByte(23), '0');
        x.load();
        due("writePlant() of a shorter text", x.writePlant(), 30);
        due("outputByte(30)", x.outputByte(30), HosieryPlant.NONE);
        // The order is by kind of statement; written texts load to the same text.
        HosieryPlant y = loaded("size b 600 700;yarn zz 1 2;piece zz ribbed 555 9 times 2;shape abcdef 500;box 6;yarn a 3 4;"
                + "size a 500 500;shape z 9999;piece a lace 9999 255;steam 0;piece zz plain 1 0;".replace("plain 1 ", "plain 1000 "));
        String whole = "tolerance 30 6;steam 0;box 6;yarn zz 1 2;yarn a 3 4;shape abcdef 500;shape z 9999;size b 600 700;size a 500 500;"
                + "piece zz ribbed 555 9;piece zz ribbed 555 9;piece a lace 9999 255;piece zz plain 1000 0;";
        due("a mixed plant", written(y), whole);
        due("a written plant", written(loaded(whole)), whole);
    }

    private static void checkWriteLongest() {
        StringBuilder text = new StringBuilder("tolerance 500 255;steam 100;box 6;");
        for (char i = 'a'; i < 'g'; i++) {
            text.append("yarn abcde").append(i).append(" 100 50;");
        }
        for (char i = 'a'; i < 'i'; i++) {
            text.append("shape zyxwv").append(i).append(" 9999;");
        }
        for (char i = 'a'; i < 'g'; i++) {
            text.append("size mmmmm").append(i).append(" 9999 9999;");
        }
        for (char i = 'a'; i < 'o'; i++) {
            text.append("piece abcdef ribbed 9999 255;");
        }
        // Two plants alike are read a half each: one may not be asked for all.
        int half = text.length() / 2;
        String read = part(loaded(text.toString()), 0, half) + part(loaded(text.toString()), half, text.length());
        due("the longest plant", read, text.toString());
        due("writePlant() of the longest plant", loaded(text.toString()).writePlant(), text.length());
    }
}
