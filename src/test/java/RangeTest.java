import java.lang.reflect.Method;
import java.util.ArrayList;
import java.util.Arrays;
import java.util.List;
import java.util.function.Supplier;

/**
 * The range of every parameter, in plants of every kind: "A parameter that is out of range makes a
 * method return INVALID and change nothing. INVALID comes before all other special results." And:
 * questions change nothing; they are answered alike whatever was asked, loaded or undone before.
 */
public final class RangeTest {
    // What a parameter counts: the plant says how many of them there are.
    private static final int[] PIECE = {-1};
    private static final int[] SHAPE = {-2};
    private static final int[] SIZE = {-3};
    private static final int[] YARN = {-4};
    private static final int[] FROM_ZERO = {0, Integer.MAX_VALUE};

    private static final String SMALL = "steam 0;box 1;yarn a 5 5;yarn b 50 50;shape s 500;shape t 9999;size z 500 699;size y 500 750;"
            + "piece a plain 600 9 times 2;piece b lace 700 8;piece b plain 701 7;piece a plain 800 6;";

    private static int wrong = 0;

    private static void due(String call, Object got, Object want) {
        if (!got.equals(want)) {
            wrong++;
            System.out.println(call + ": is " + got + ", due is " + want);
        }
    }

    /** A method with the range of each of its parameters; whether its right calls may change something. */
    private static final class Row {
        final String name;
        final boolean changes;
        final int[][] ranges;

        Row(String name, boolean changes, int[]... ranges) {
            this.name = name;
            this.changes = changes;
            this.ranges = ranges;
        }

        /** The least and the greatest right value of a parameter; the greatest is less if there is none. */
        int[] limits(int place, HosieryPlant x) {
            int[] range = ranges[place];
            if (range == PIECE) {
                return new int[] {0, x.pieceCount() - 1};
            }
            if (range == SHAPE) {
                return new int[] {0, x.shapeCount() - 1};
            }
            if (range == SIZE) {
                return new int[] {0, x.sizeCount() - 1};
            }
            return range == YARN ? new int[] {0, x.yarnCount() - 1} : range;
        }
    }

    private static int[] from(int least, int greatest) {
        return new int[] {least, greatest};
    }

    private static List<Row> rows() {
        List<Row> rows = new ArrayList<>();
        rows.add(new Row("find", true, from(0, 2)));
        for (String name : "length knitted shade yarnOf kindOf state stretchLimit longestShape sizeOf matches nearest partner groupOf bestDye".split(" ")) {
            rows.add(new Row(name, false, PIECE));
        }
        rows.add(new Row("inState", false, from(0, 3)));
        rows.add(new Row("ofSize", false, SIZE));
        rows.add(new Row("ofYarn", false, YARN));
        rows.add(new Row("ifBoarded", false, PIECE, SHAPE));
        rows.add(new Row("sorted", false, FROM_ZERO));
        rows.add(new Row("board", true, PIECE, SHAPE));
        rows.add(new Row("boardAll", true, SHAPE));
        rows.add(new Row("dye", true, PIECE, from(0, 255)));
        rows.add(new Row("setTolerance", true, from(0, 500), from(0, 255)));
        rows.add(new Row("setSteam", true, from(0, 100)));
        rows.add(new Row("isMatch", false, PIECE, PIECE));
        rows.add(new Row("gap", false, PIECE, PIECE));
        rows.add(new Row("pair", false, FROM_ZERO));
        rows.add(new Row("pairSize", false, FROM_ZERO));
        rows.add(new Row("ifDays", false, from(0, 60)));
        rows.add(new Row("bestDay", false, from(0, 60)));
        rows.add(new Row("ifAllBoarded", false, SHAPE));
        rows.add(new Row("leastSteam", false, SHAPE, from(1, 7)));
        rows.add(new Row("leastTolerance", false, from(1, 7)));
        rows.add(new Row("ifTolerance", false, from(0, 500), from(0, 255)));
        rows.add(new Row("daysToSize", false, PIECE, SIZE));
        rows.add(new Row("shapeFor", false, PIECE, from(500, 9999)));
        return rows;
    }

    private static void type(HosieryPlant x, String text) {
        for (int i = 0; i < text.length(); i += 20) {
            int[] words = new int[5];
            for (int j = 0; j < 20; j++) {
                int sign = i + j < text.length() ? text.charAt(i + j) : ' ';
                words[j / 4] = words[j / 4] << 8 | sign;
            }
            x.append(words[0], words[1], words[2], words[3], words[4]);
        }
        x.truncate(text.length());
    }

    /** A plant of this text with something in both buffers and a parse error. */
    private static HosieryPlant loaded(String text) {
        HosieryPlant x = new HosieryPlant();
        x.writePlant();
        type(x, text);
        due("load of <" + text + ">", x.load() >= 0, true);
        type(x, "box 2;?");
        x.load();
        type(x, "yarn zz 7 7;");
        return x;
    }

    private static HosieryPlant boarded() {
        HosieryPlant x = loaded(SMALL);
        x.boardAll(0);
        return x;
    }

    /** Pieces 0 and 1 are packed, 2 is torn, 3 is boarded and 4 is raw. */
    private static HosieryPlant mixed() {
        return mix(loaded(SMALL));
    }

    private static HosieryPlant mix(HosieryPlant x) {
        x.board(0, 0);
        x.board(1, 0);
        x.pack();
        x.board(2, 1);
        x.board(3, 0);
        int[] states = {3, 3, 2, 1, 0};
        for (int i = 0; i < states.length; i++) {
            due("state(" + i + ") of the mixed plant", x.state(i), states[i]);
        }
        return x;
    }

    /** As full as can be, with yarns, shapes and sizes that are not those of the small plant. */
    private static HosieryPlant full() {
        StringBuilder text = new StringBuilder("steam 0;");
        for (int i = 0; i < 8; i++) {
            char name = (char) ('a' + i);
            text.append("shape ").append(name).append(" 500;");
            if (i < 6) {
                text.append("yarn ").append(name).append(" 6 6;size ").append(name).append(" 600 1000;");
            }
        }
        HosieryPlant x = loaded(text + "piece a plain 600 9 times 10;piece f plain 600 9 times 4;");
        x.boardAll(0);
        return x;
    }

    /** All that a plant shows; it is emptied on the way. */
    private static String everything(HosieryPlant x) {
        StringBuilder all = new StringBuilder("error ").append(x.errorCode()).append(' ').append(x.errorPosition());
        all.append(" output ").append(output(x)).append(" input ");
        int length = 40;
        while (x.truncate(length) == HosieryPlant.NONE) {
            length--;
        }
        all.append(length);
        if (x.pieceCount() <= 5) {
            x.writePlant();
            all.append(" plant ").append(output(x));
        }
        int undos = x.undoCount();
        for (int i = 0; i <= undos; i++) {
            // No object may be asked more than 512 times: the oldest plants but one are passed by.
            all.append(" | ").append(i <= 2 || i == undos - 1 ? look(x) : "").append(" undo ").append(x.undo());
        }
        all.append(" load ").append(x.load()).append(x.errorCode()).append(x.errorPosition()).append(x.yarnCount());
        return all.toString();
    }

    private static String output(HosieryPlant x) {
        StringBuilder text = new StringBuilder();
        int next = x.outputByte(0);
        for (int i = 1; next != HosieryPlant.NONE; i++) {
            text.append((char) next);
            next = x.outputByte(i);
        }
        return text.toString();
    }

    private static String look(HosieryPlant x) {
        int[] seen = {x.yarnCount(), x.shapeCount(), x.sizeCount(), x.pieceCount(), x.days(), x.undoCount(),
            x.lengthTolerance(), x.shadeTolerance(), x.steam(), x.pairCount(), x.pairGap(), x.boxCount()};
        StringBuilder all = new StringBuilder(Arrays.toString(seen));
        for (int i = 0; i < x.pieceCount(); i++) {
            all.append(' ').append(x.length(i)).append(':').append(x.shade(i)).append(':').append(x.state(i));
        }
        return all.toString();
    }

    private static int answer(HosieryPlant x, String name, int[] values) throws Exception {
        for (Method method : HosieryPlant.class.getMethods()) {
            if (method.getName().equals(name) && method.getParameterCount() == values.length) {
                return (int) method.invoke(x, Arrays.stream(values).boxed().toArray());
            }
        }
        throw new IllegalStateException("no method " + name);
    }

    /** The values just outside and far outside the limits. */
    private static List<Integer> outside(int[] limits) {
        List<Integer> values = new ArrayList<>(List.of(limits[0] - 1, Integer.MIN_VALUE, Integer.MIN_VALUE + 1));
        if (limits[1] < Integer.MAX_VALUE) {
            values.addAll(List.of(limits[1] + 1, limits[1] + 32, limits[1] + 65536, Integer.MAX_VALUE - 1, Integer.MAX_VALUE));
        }
        return values;
    }

    private static void invalid(String plant, Row row, Supplier<HosieryPlant> maker, String want, int[] values) throws Exception {
        HosieryPlant x = maker.get();
        String call = row.name + Arrays.toString(values) + " of the plant " + plant;
        due(call, answer(x, row.name, values), HosieryPlant.INVALID);
        due("all after " + call, everything(x), want);
    }

    private static void valid(String plant, Row row, Supplier<HosieryPlant> maker, String want, int[] values) throws Exception {
        HosieryPlant x = maker.get();
        String call = row.name + Arrays.toString(values) + " of the plant " + plant;
        due(call + " is INVALID", answer(x, row.name, values) == HosieryPlant.INVALID, false);
        if (!row.changes) {
            due("all after " + call, everything(x), want);
        }
    }

    /** Every value of the first parameter, if it is an index, with each right and wrong value of the others. */
    private static void check(String plant, Row row, Supplier<HosieryPlant> maker) throws Exception {
        String want = everything(maker.get());
        HosieryPlant x = maker.get();
        int[] first = row.limits(0, x);
        for (int value : outside(first)) {
            if (row.ranges.length == 1) {
                invalid(plant, row, maker, want, new int[] {value});
                continue;
            }
            int[] second = row.limits(1, x);
            for (int other : new int[] {second[0], second[1], value, second[0] - 1, second[1] + 1}) {
                invalid(plant, row, maker, want, new int[] {value, other});
            }
        }
        boolean few = first[1] < 14;
        for (int value = first[0]; value <= first[1] && few || value == first[0]; value++) {
            checkSecond(plant, row, maker, want, value);
        }
        checkSecond(plant, row, maker, want, first[1]);
    }

    private static void checkSecond(String plant, Row row, Supplier<HosieryPlant> maker, String want, int value) throws Exception {
        HosieryPlant x = maker.get();
        int[] first = row.limits(0, x);
        boolean right = value >= first[0] && value <= first[1];
        if (row.ranges.length == 1) {
            if (right) {
                valid(plant, row, maker, want, new int[] {value});
            } else {
                invalid(plant, row, maker, want, new int[] {value});
            }
            return;
        }
        int[] second = row.limits(1, x);
        for (int other : outside(second)) {
            invalid(plant, row, maker, want, new int[] {value, other});
        }
        for (int other : new int[] {second[0], second[1]}) {
            boolean different = row.ranges[0] != PIECE || row.ranges[1] != PIECE || value != other;
            if (right && different && other >= second[0] && other <= second[1]) {
                valid(plant, row, maker, want, new int[] {value, other});
            } else {
                invalid(plant, row, maker, want, new int[] {value, other});
            }
        }
    }

    /** The questions without parameters change nothing either. */
    private static void checkQuestions(String plant, Supplier<HosieryPlant> maker) throws Exception {
        String want = everything(maker.get());
        for (String name : ("errorCode errorPosition yarnCount shapeCount sizeCount pieceCount days undoCount lengthTolerance shadeTolerance steam"
                + " lengthRange pairCount pairGap seconds groupCount boxCount bestShape worstPair").split(" ")) {
            HosieryPlant x = maker.get();
            answer(x, name, new int[0]);
            due("all after " + name + "() of the plant " + plant, everything(x), want);
        }
        for (int index : new int[] {Integer.MIN_VALUE, -1, 0, 29, 30, Integer.MAX_VALUE}) {
            HosieryPlant x = maker.get();
            x.outputByte(index);
            due("all after outputByte(" + index + ") of the plant " + plant, everything(x), want);
        }
    }

    /** The full plant, and then the small one in its place. */
    private static HosieryPlant replaced() {
        HosieryPlant x = full();
        x.pairGap();
        x.pack();
        x.truncate(0);
        type(x, SMALL);
        x.load();
        type(x, "box 2;?");
        x.load();
        type(x, "yarn zz 7 7;");
        return x;
    }

    /** Every answer of this question, for right and wrong values. */
    private static String answers(HosieryPlant x, Method question) throws Exception {
        StringBuilder all = new StringBuilder();
        int[] firsts = {-1, 0, 1, 2, 3, 4, 5, 6, 7, 8, 9, 10, 11, 12, 13, 14, 15, 60, 100, 500, 1000};
        int[] seconds = {-1, 0, 1, 2, 4, 5, 7, 13, 100, 500, 1000};
        if (question.getParameterCount() == 0) {
            return all.append(question.invoke(x)).toString();
        }
        for (int first : firsts) {
            if (question.getParameterCount() == 1) {
                all.append(' ').append(question.invoke(x, first));
                continue;
            }
            for (int second : seconds) {
                all.append(' ').append(question.invoke(x, first, second));
            }
        }
        return all.toString();
    }

    private static List<Method> questions() {
        List<String> changing = List.of("append", "truncate", "load", "find", "board", "boardAll", "day", "dye", "setTolerance", "setSteam",
                "pack", "undo", "undoCount", "writePlant");
        List<Method> questions = new ArrayList<>();
        for (Method method : HosieryPlant.class.getMethods()) {
            if (method.getDeclaringClass() == HosieryPlant.class && !changing.contains(method.getName())) {
                questions.add(method);
            }
        }
        due("the number of questions", questions.size(), 50);
        return questions;
    }

    /** Each question is the first one that the one plant is asked, and the last of many that the other is asked. */
    private static void checkAlike(String what, Supplier<HosieryPlant> one, Supplier<HosieryPlant> other) throws Exception {
        for (Method question : questions()) {
            HosieryPlant x = other.get();
            look(x);
            x.bestShape();
            x.bestDay(9);
            x.leastTolerance(7);
            due("all answers of " + question.getName() + " to " + what, answers(one.get(), question), answers(x, question));
        }
    }

    /** The plant after a call that is undone, if it changed anything. */
    private static HosieryPlant undone(HosieryPlant x, int kind) {
        look(x);
        int before = x.undoCount();
        switch (kind) {
            case 0: x.truncate(0); x.load(); break;
            case 1: x.truncate(0); type(x, SMALL + "piece a lace 700 7;"); x.load(); break;
            case 2: x.day(); break;
            case 3: x.dye(2, 99); break;
            case 4: x.setTolerance(500, 255); break;
            case 5: x.setSteam(99); break;
            case 6: x.board(3, 1); break;
            case 7: x.boardAll(0); break;
            case 8: x.board(0, 1); break;
            case 9: x.pack(); break;
            default: x.setSteam(3); x.setTolerance(1, 1); x.undo(); break;
        }
        look(x);
        if (x.undoCount() > before) {
            due("undo() of change " + kind, x.undo(), before);
        }
        if (kind <= 1) {
            // The load took the parse error away, which undo() does not bring back.
            type(x, "box 2;?");
            x.load();
        }
        return x;
    }

    private static void checkAlikes() throws Exception {
        checkAlike("a plant in the place of a full one", RangeTest::replaced, () -> loaded(SMALL));
        checkAlike("a mixed plant in the place of a full one", () -> mix(replaced()), RangeTest::mixed);
        for (int kind = 0; kind <= 10; kind++) {
            int each = kind;
            checkAlike("a mixed plant after undo() of change " + kind, () -> undone(mixed(), each), RangeTest::mixed);
            checkAlike("a boarded plant after undo() of change " + kind, () -> undone(boarded(), each), RangeTest::boarded);
        }
        checkAlike("a full plant after undo() of a pack()", () -> {
            HosieryPlant x = full();
            x.pack();
            x.undo();
            return x;
        }, RangeTest::full);
    }

    public static void main(String[] args) throws Exception {
        checkAlikes();
        List<String> names = List.of("new", "without pieces", "raw", "boarded", "mixed", "full");
        List<Supplier<HosieryPlant>> makers = List.of(HosieryPlant::new, () -> loaded("steam 1;"), () -> loaded(SMALL),
                RangeTest::boarded, RangeTest::mixed, RangeTest::full);
        for (int i = 0; i < names.size(); i++) {
            for (Row row : rows()) {
                check(names.get(i), row, makers.get(i));
            }
            checkQuestions(names.get(i), makers.get(i));
        }
        System.exit(wrong == 0 ? 0 : 1);
    }
}
