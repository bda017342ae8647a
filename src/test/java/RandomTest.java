import java.lang.reflect.Method;
import java.util.ArrayDeque;
import java.util.ArrayList;
import java.util.Arrays;
import java.util.Comparator;
import java.util.List;
import java.util.Random;
import java.util.TreeMap;
import java.util.regex.Matcher;
import java.util.regex.Pattern;

/** Long runs of calls with right and wrong arguments, against a plain model of the whole document. */
public final class RandomTest {
    private static final int NONE = -1;
    private static final int INVALID = -2;
    private static final int PARSE_ERROR = -4;
    private static final int WRONG_STATE = -6;
    // What an object answers after its 512th call is free: a text that is typed then takes the last thirty.
    private static final int MOST_CALLS = 512 - 30;
    private static int wrong = 0;
    private static int calls = 0;

    public static void main(String[] args) throws Exception {
        TreeMap<String, Method> methods = new TreeMap<>();
        for (Method method : HosieryPlant.class.getMethods()) {
            if (method.getDeclaringClass() == HosieryPlant.class) {
                methods.put(method.getName(), method);
            }
        }
        List<Method> all = new ArrayList<>(methods.values());
        for (int seed = 0; seed < 400 && wrong < 10; seed++) {
            run(seed, all);
        }
        System.exit(wrong == 0 ? 0 : 1);
    }

    private static void run(int seed, List<Method> all) throws Exception {
        Random random = new Random(seed);
        HosieryPlant x = new HosieryPlant();
        Model model = new Model();
        int mostPieces = seed % 40 == 0 ? 11 : 3 + seed % 6;
        calls = 0;
        while (calls < MOST_CALLS && wrong < 10) {
            if (calls == 0 || random.nextInt(60) == 0) {
                typeText(x, model, seed, new Texts(random, mostPieces).next());
            }
            Method method = all.get(random.nextInt(all.size()));
            if (rareCall(method.getName()) && random.nextInt(4) != 0) {
                continue;
            }
            int[] values = arguments(random, method, model);
            int want = model.answer(method.getName(), values);
            Object[] boxed = Arrays.stream(values).boxed().toArray();
            check(seed, method.getName() + Arrays.toString(values), (int) method.invoke(x, boxed), want);
        }
    }

    /** These would too often empty the plant, or the buffers, or end what the other calls work on. */
    private static boolean rareCall(String name) {
        return Arrays.asList("load", "pack", "undo", "find", "boardAll", "append").contains(name);
    }

    private static void check(int seed, String call, int got, int want) {
        calls++;
        if (calls > 512) {
            throw new IllegalStateException("more calls than the document promises");
        }
        if (got != want) {
            wrong++;
            System.out.println("seed " + seed + ": " + call + " answered " + got + ", due is " + want);
        }
    }

    private static void typeText(HosieryPlant x, Model model, int seed, String text) {
        check(seed, "truncate", x.truncate(0), model.answer("truncate", new int[] {0}));
        for (int i = 0; i < text.length(); i += 20) {
            int[] words = new int[5];
            for (int j = 0; j < 20; j++) {
                int sign = i + j < text.length() ? text.charAt(i + j) : ' ';
                words[j / 4] = words[j / 4] << 8 | sign;
            }
            check(seed, "append", x.append(words[0], words[1], words[2], words[3], words[4]), model.answer("append", words));
        }
        int[] length = {text.length()};
        check(seed, "truncate", x.truncate(text.length()), model.answer("truncate", length));
        check(seed, "load <" + text + ">", x.load(), model.answer("load", new int[0]));
        check(seed, "errorCode <" + text + ">", x.errorCode(), model.answer("errorCode", new int[0]));
        check(seed, "errorPosition <" + text + ">", x.errorPosition(), model.answer("errorPosition", new int[0]));
    }

    private static int[] arguments(Random random, Method method, Model model) {
        int[] values = new int[method.getParameterCount()];
        for (int i = 0; i < values.length; i++) {
            values[i] = argument(random, method.getName(), i, model.now);
        }
        return values;
    }

    private static int argument(Random random, String name, int place, State now) {
        if (random.nextInt(25) == 0) {
            int[] wild = {-1, 14, 15, 31, 32, 33, 256, 501, 10000, random.nextInt(), Integer.MIN_VALUE, Integer.MAX_VALUE};
            return wild[random.nextInt(wild.length)];
        }
        switch (name) {
            case "append": return random.nextInt();
            case "truncate": case "outputByte": return random.nextInt(60);
            case "find": return random.nextInt(3);
            case "inState": return random.nextInt(4);
            case "ofYarn": return random.nextInt(now.yarns.size() + 1);
            case "ofSize": return random.nextInt(now.sizes.size() + 1);
            case "boardAll": case "ifAllBoarded": return random.nextInt(now.shapes.size() + 1);
            case "ifDays": case "bestDay": return random.nextInt(61);
            case "leastTolerance": return 1 + random.nextInt(4);
            case "setSteam": return random.nextInt(101);
            case "setTolerance": case "ifTolerance":
                return place == 0 ? random.nextInt(random.nextBoolean() ? 501 : 40) : random.nextInt(random.nextBoolean() ? 256 : 20);
            case "leastSteam": return place == 0 ? random.nextInt(now.shapes.size() + 1) : 1 + random.nextInt(4);
            case "board": case "ifBoarded":
                return random.nextInt((place == 0 ? now.pieces.size() : now.shapes.size()) + 1);
            case "daysToSize": return random.nextInt((place == 0 ? now.pieces.size() : now.sizes.size()) + 1);
            case "dye": return place == 0 ? random.nextInt(now.pieces.size() + 1) : 90 + random.nextInt(30);
            case "shapeFor": return place == 0 ? random.nextInt(now.pieces.size() + 1) : 900 + random.nextInt(500);
            default: return random.nextInt(now.pieces.size() + 1);
        }
    }

    /** Makes texts, most of them right, some with a sign or a token changed. */
    private static final class Texts {
        private final Random random;
        private final int mostPieces;
        private final StringBuilder text = new StringBuilder();

        Texts(Random random, int mostPieces) {
            this.random = random;
            this.mostPieces = mostPieces;
        }

        private String name() {
            return String.valueOf((char) ('a' + random.nextInt(12))).repeat(1 + random.nextInt(2));
        }

        String next() {
            List<String> yarns = new ArrayList<>();
            add("tolerance", 5 + random.nextInt(40), random.nextInt(20));
            add("steam", random.nextInt(101));
            if (random.nextBoolean()) {
                add("box", 1 + random.nextInt(2));
            }
            for (int i = 1 + random.nextInt(2); i > 0; i--) {
                yarns.add(name());
                add("yarn", yarns.get(yarns.size() - 1), 10 + random.nextInt(40), random.nextInt(51));
            }
            for (int i = random.nextInt(4); i > 0; i--) {
                add("shape", name(), 900 + random.nextInt(500));
            }
            for (int i = random.nextInt(4); i > 0; i--) {
                int least = 900 + random.nextInt(200);
                add("size", name(), least, least + random.nextInt(200));
            }
            for (int left = mostPieces; left > 0; left--) {
                Object kind = new String[] {"plain", "plain", "ribbed", "lace"}[random.nextInt(4)];
                Object yarn = yarns.get(random.nextInt(yarns.size()));
                if (left > 2 && random.nextInt(3) == 0) {
                    add("piece", yarn, kind, 950 + random.nextInt(150), 95 + random.nextInt(20), "times", 2);
                    left--;
                } else {
                    add("piece", yarn, kind, 950 + random.nextInt(150), 95 + random.nextInt(20));
                }
            }
            for (int i = random.nextInt(4) - 2; i > 0; i--) {
                spoil();
            }
            return text.toString();
        }

        private void add(Object... tokens) {
            for (int i = 0; i < tokens.length; i++) {
                text.append(i == 0 ? "" : random.nextInt(9) == 0 ? " \n " : " ").append(tokens[i]);
            }
            text.append(random.nextInt(9) == 0 ? " ; " : ";");
        }

        private void spoil() {
            String[] signs = {"", "", " ", ";", "a", "9", "0", "times 2", "plain", "yarn a 5 5;", "box 2;", "steam 9;", "-", "\n", "\t", "\u00e9", "{", "`", "/", ":"};
            int from = random.nextInt(text.length());
            int to = Math.min(text.length(), from + random.nextInt(3));
            text.replace(from, to, signs[random.nextInt(signs.length)]);
        }
    }

    private static final class Yarn {
        String name;
        int stretch;
        int recovery;
    }

    private static final class Shape {
        String name;
        int length;
    }

    private static final class Size {
        String name;
        int least;
        int greatest;
    }

    private static final class Piece {
        int yarn;
        String kind;
        int knitted;
        int length;
        int shade;
        int state;

        Piece copy() {
            Piece other = new Piece();
            other.yarn = yarn;
            other.kind = kind;
            other.knitted = knitted;
            other.length = length;
            other.shade = shade;
            other.state = state;
            return other;
        }
    }

    private static final class Refusal extends Exception {
        private static final long serialVersionUID = 1L;
        final int code;
        final int position;

        Refusal(int code, int position) {
            this.code = code;
            this.position = position;
        }
    }

    /** Reads a text token by token; a refused one is an exception. */
    private static final class Reader {
        private static final List<String> KEYWORDS = Arrays.asList("tolerance steam box yarn shape size piece plain ribbed lace times".split(" "));
        private final List<String> tokens = new ArrayList<>();
        private final List<Integer> places = new ArrayList<>();
        private final State state = new State();
        private final List<String> seen = new ArrayList<>();
        private int index = 0;

        Reader(String text) {
            Matcher matcher = Pattern.compile("[a-z]+|[0-9]+|[^ \\n]", Pattern.DOTALL).matcher(text);
            while (matcher.find()) {
                tokens.add(matcher.group());
                places.add(matcher.start());
            }
            tokens.add("");
            places.add(text.length());
        }

        State read() throws Refusal {
            while (!token().isEmpty()) {
                statement();
                demand(token().equals(";"), 1);
                index++;
            }
            return state;
        }

        private String token() {
            return tokens.get(index);
        }

        private void demand(boolean right, int code) throws Refusal {
            if (!right) {
                throw new Refusal(code, places.get(index));
            }
        }

        private void statement() throws Refusal {
            String word = token();
            demand(KEYWORDS.indexOf(word) >= 0 && KEYWORDS.indexOf(word) < 7, 1);
            switch (word) {
                case "tolerance": case "steam": case "box":
                    demand(!seen.contains(word), 3);
                    seen.add(word);
                    index++;
                    setting(word);
                    break;
                case "yarn": {
                    demand(state.yarns.size() < 6, 5);
                    index++;
                    Yarn yarn = new Yarn();
                    yarn.name = name();
                    for (Yarn other : state.yarns) {
                        demand(!other.name.equals(yarn.name), 3);
                    }
                    index++;
                    yarn.stretch = number(1, 100);
                    yarn.recovery = number(0, 50);
                    state.yarns.add(yarn);
                    break;
                }
                case "shape": {
                    demand(state.shapes.size() < 8, 5);
                    index++;
                    Shape shape = new Shape();
                    shape.name = name();
                    for (Shape other : state.shapes) {
                        demand(!other.name.equals(shape.name), 3);
                    }
                    index++;
                    shape.length = number(500, 9999);
                    state.shapes.add(shape);
                    break;
                }
                case "size": {
                    demand(state.sizes.size() < 6, 5);
                    index++;
                    Size size = new Size();
                    size.name = name();
                    for (Size other : state.sizes) {
                        demand(!other.name.equals(size.name), 3);
                    }
                    index++;
                    size.least = number(500, 9999);
                    size.greatest = number(size.least, 9999);
                    state.sizes.add(size);
                    break;
                }
                default:
                    demand(state.pieces.size() < 14, 5);
                    index++;
                    piece();
                    break;
            }
        }

        private void setting(String word) throws Refusal {
            if (word.equals("tolerance")) {
                state.lengthTolerance = number(0, 500);
                state.shadeTolerance = number(0, 255);
            } else if (word.equals("steam")) {
                state.strength = number(0, 100);
            } else {
                state.box = number(1, 6);
            }
        }

        private void piece() throws Refusal {
            Piece piece = new Piece();
            String yarn = name();
            piece.yarn = -1;
            for (int i = 0; i < state.yarns.size(); i++) {
                if (state.yarns.get(i).name.equals(yarn)) {
                    piece.yarn = i;
                }
            }
            demand(piece.yarn >= 0, 4);
            index++;
            piece.kind = token();
            demand(Arrays.asList("plain", "ribbed", "lace").contains(piece.kind), 1);
            index++;
            piece.knitted = number(500, 9999);
            piece.length = piece.knitted;
            piece.shade = number(0, 255);
            int times = 1;
            if (token().equals("times")) {
                index++;
                times = number(1, 14);
                index--;
                demand(state.pieces.size() + times <= 14, 5);
                index++;
            }
            for (int i = 0; i < times; i++) {
                state.pieces.add(piece.copy());
            }
        }

        private String name() throws Refusal {
            demand(token().matches("[a-z]{1,6}") && !KEYWORDS.contains(token()), 1);
            return token();
        }

        private int number(int least, int greatest) throws Refusal {
            demand(token().matches("[0-9]+"), 1);
            String digits = token().replaceFirst("^0+(?=.)", "");
            demand(digits.length() <= 6 && Integer.parseInt(digits) >= least && Integer.parseInt(digits) <= greatest, 2);
            index++;
            return Integer.parseInt(digits);
        }
    }

    /** What undo() brings back, with the rules of sections 2 to 4. */
    private static final class State {
        final List<Yarn> yarns = new ArrayList<>();
        final List<Shape> shapes = new ArrayList<>();
        final List<Size> sizes = new ArrayList<>();
        final List<Piece> pieces = new ArrayList<>();
        int lengthTolerance = 30;
        int shadeTolerance = 6;
        int strength = 60;
        int box = 2;
        int days = 0;

        State copy() {
            State other = new State();
            other.yarns.addAll(yarns);
            other.shapes.addAll(shapes);
            other.sizes.addAll(sizes);
            for (Piece piece : pieces) {
                other.pieces.add(piece.copy());
            }
            other.lengthTolerance = lengthTolerance;
            other.shadeTolerance = shadeTolerance;
            other.strength = strength;
            other.box = box;
            other.days = days;
            return other;
        }

        String text() {
            StringBuilder text = new StringBuilder();
            text.append(String.format("tolerance %d %d;steam %d;box %d;", lengthTolerance, shadeTolerance, strength, box));
            for (Yarn yarn : yarns) {
                text.append(String.format("yarn %s %d %d;", yarn.name, yarn.stretch, yarn.recovery));
            }
            for (Shape shape : shapes) {
                text.append(String.format("shape %s %d;", shape.name, shape.length));
            }
            for (Size size : sizes) {
                text.append(String.format("size %s %d %d;", size.name, size.least, size.greatest));
            }
            for (Piece piece : pieces) {
                text.append(String.format("piece %s %s %d %d;", yarns.get(piece.yarn).name, piece.kind, piece.knitted, piece.shade));
            }
            return text.toString();
        }

        /** Everything that a call can change, as a text to compare. */
        String whole() {
            StringBuilder whole = new StringBuilder(text()).append(days);
            for (Piece piece : pieces) {
                whole.append(' ').append(piece.length).append(' ').append(piece.state);
            }
            return whole.toString();
        }

        int limit(Piece piece) {
            int stretch = yarns.get(piece.yarn).stretch;
            switch (piece.kind) {
                case "plain": return stretch;
                case "ribbed": return stretch + 20;
                default: return stretch > 10 ? stretch - 10 : 1;
            }
        }

        int longest(Piece piece) {
            return piece.length * (100 + limit(piece)) / 100;
        }

        int lengthOn(Piece piece, int shape) {
            int target = shapes.get(shape).length;
            return target > longest(piece) ? NONE : piece.length + (target - piece.length) * strength / 100;
        }

        void board(Piece piece, int shape) {
            int length = lengthOn(piece, shape);
            piece.state = length == NONE ? 2 : 1;
            piece.length = length == NONE ? piece.length : length;
        }

        int boardAll(int shape) {
            int boarded = 0;
            for (Piece piece : pieces) {
                if (piece.state == 0) {
                    board(piece, shape);
                    boarded += piece.state == 1 ? 1 : 0;
                }
            }
            return boarded;
        }

        int day() {
            int changed = 0;
            for (Piece piece : pieces) {
                if (piece.state == 1) {
                    int before = piece.length;
                    piece.length = before - (before - piece.knitted) * yarns.get(piece.yarn).recovery / 100;
                    changed += piece.length != before ? 1 : 0;
                }
            }
            days++;
            return changed;
        }

        int sizeOf(int... lengths) {
            for (int i = 0; i < sizes.size(); i++) {
                boolean all = true;
                for (int length : lengths) {
                    all &= length >= sizes.get(i).least && length <= sizes.get(i).greatest;
                }
                if (all) {
                    return i;
                }
            }
            return NONE;
        }

        int gap(int first, int second) {
            Piece a = pieces.get(first);
            Piece b = pieces.get(second);
            return Math.abs(a.length - b.length) + 10 * Math.abs(a.shade - b.shade);
        }

        boolean match(int first, int second) {
            Piece a = pieces.get(first);
            Piece b = pieces.get(second);
            return first != second && a.state == 1 && b.state == 1 && a.yarn == b.yarn && a.kind.equals(b.kind)
                    && Math.abs(a.length - b.length) <= lengthTolerance && Math.abs(a.shade - b.shade) <= shadeTolerance;
        }

        int matches(int piece) {
            int set = 0;
            for (int i = 0; i < pieces.size(); i++) {
                set |= match(piece, i) ? 1 << i : 0;
            }
            return set;
        }

        int lowestConnected(int piece) {
            ArrayDeque<Integer> open = new ArrayDeque<>(List.of(piece));
            List<Integer> done = new ArrayList<>();
            while (!open.isEmpty()) {
                int next = open.pop();
                if (!done.contains(next)) {
                    done.add(next);
                    for (int i = 0; i < pieces.size(); i++) {
                        if (match(next, i)) {
                            open.push(i);
                        }
                    }
                }
            }
            return done.stream().min(Comparator.naturalOrder()).get();
        }

        /** The best pairing, of all that there are. */
        int[] bestPairing() {
            int[] partners = new int[pieces.size()];
            Arrays.fill(partners, NONE);
            int[][] best = new int[1][];
            tryFrom(0, partners, best);
            return best[0];
        }

        private void tryFrom(int piece, int[] partners, int[][] best) {
            if (piece == partners.length) {
                if (best[0] == null || isBetter(partners, best[0])) {
                    best[0] = partners.clone();
                }
                return;
            }
            tryFrom(piece + 1, partners, best);
            for (int i = piece + 1; i < partners.length && partners[piece] == NONE; i++) {
                if (partners[i] == NONE && match(piece, i)) {
                    partners[piece] = i;
                    partners[i] = piece;
                    tryFrom(piece + 1, partners, best);
                    partners[piece] = NONE;
                    partners[i] = NONE;
                }
            }
        }

        private boolean isBetter(int[] one, int[] other) {
            if (count(one) != count(other)) {
                return count(one) > count(other);
            }
            if (gaps(one) != gaps(other)) {
                return gaps(one) < gaps(other);
            }
            for (int i = 0; i < one.length; i++) {
                if (one[i] != other[i]) {
                    return one[i] != NONE && (other[i] == NONE || one[i] < other[i]);
                }
            }
            return false;
        }

        static int count(int[] partners) {
            return (int) Arrays.stream(partners).filter(i -> i != NONE).count() / 2;
        }

        int gaps(int[] partners) {
            int sum = 0;
            for (int i = 0; i < partners.length; i++) {
                sum += partners[i] > i ? gap(i, partners[i]) : 0;
            }
            return sum;
        }

        int pairs() {
            return count(bestPairing());
        }

        /** The full boxes' pairs, by their lower pieces. */
        List<Integer> packed(int[] partners) {
            TreeMap<String, List<Integer>> groups = new TreeMap<>();
            for (int i = 0; i < partners.length; i++) {
                if (partners[i] > i) {
                    Piece piece = pieces.get(i);
                    int size = sizeOf(piece.length, pieces.get(partners[i]).length);
                    if (size != NONE) {
                        groups.computeIfAbsent(piece.yarn + piece.kind + size, k -> new ArrayList<>()).add(i);
                    }
                }
            }
            List<Integer> packed = new ArrayList<>();
            for (List<Integer> group : groups.values()) {
                packed.addAll(group.subList(0, group.size() / box * box));
            }
            return packed;
        }
    }

    /** The whole document, call by call. */
    private static final class Model {
        State now = new State();
        private final ArrayDeque<State> before = new ArrayDeque<>();
        private String input = "";
        private String output = "";
        private int code = 0;
        private int position = NONE;

        int answer(String name, int[] a) {
            if (wrongArgument(name, a)) {
                return INVALID;
            }
            switch (name) {
                case "append": return append(a);
                case "truncate":
                    if (a[0] < 0 || a[0] > input.length()) {
                        return NONE;
                    }
                    input = input.substring(0, a[0]);
                    return a[0];
                case "load": return load();
                case "errorCode": return code;
                case "errorPosition": return position;
                case "find": return find(a[0]);
                case "writePlant":
                    output = now.text();
                    return output.length();
                case "outputByte": return a[0] >= 0 && a[0] < output.length() ? output.charAt(a[0]) : NONE;
                case "undo":
                    if (before.isEmpty()) {
                        return NONE;
                    }
                    now = before.pop();
                    return before.size();
                case "undoCount": return before.size();
                case "boardAll": case "pack": case "day": case "board": case "dye": case "setTolerance": case "setSteam":
                    return change(name, a);
                default: return a.length > 0 && isAboutPiece(name) ? ofPiece(name, a) : ofPlant(name, a);
            }
        }

        private static boolean isAboutPiece(String name) {
            return Arrays.asList("length knitted shade yarnOf kindOf state stretchLimit longestShape ifBoarded sizeOf isMatch gap"
                    .concat(" matches nearest partner groupOf bestDye daysToSize shapeFor").split(" ")).contains(name);
        }

        private static boolean out(int value, int least, int greatest) {
            return value < least || value > greatest;
        }

        private boolean wrongArgument(String name, int[] a) {
            int pieces = now.pieces.size() - 1;
            int shapes = now.shapes.size() - 1;
            int sizes = now.sizes.size() - 1;
            switch (name) {
                case "find": return out(a[0], 0, 2);
                case "inState": return out(a[0], 0, 3);
                case "ofYarn": return out(a[0], 0, now.yarns.size() - 1);
                case "ofSize": return out(a[0], 0, sizes);
                case "sorted": case "pair": case "pairSize": return a[0] < 0;
                case "boardAll": case "ifAllBoarded": return out(a[0], 0, shapes);
                case "board": case "ifBoarded": return out(a[0], 0, pieces) || out(a[1], 0, shapes);
                case "dye": return out(a[0], 0, pieces) || out(a[1], 0, 255);
                case "setTolerance": case "ifTolerance": return out(a[0], 0, 500) || out(a[1], 0, 255);
                case "setSteam": return out(a[0], 0, 100);
                case "isMatch": case "gap": return out(a[0], 0, pieces) || out(a[1], 0, pieces) || a[0] == a[1];
                case "ifDays": case "bestDay": return out(a[0], 0, 60);
                case "leastSteam": return out(a[0], 0, shapes) || out(a[1], 1, 7);
                case "leastTolerance": return out(a[0], 1, 7);
                case "daysToSize": return out(a[0], 0, pieces) || out(a[1], 0, sizes);
                case "shapeFor": return out(a[0], 0, pieces) || out(a[1], 500, 9999);
                default: return a.length > 0 && isAboutPiece(name) && out(a[0], 0, pieces);
            }
        }

        private int append(int[] a) {
            if (input.length() + 20 > 1200) {
                return NONE;
            }
            for (int word : a) {
                for (int shift = 24; shift >= 0; shift -= 8) {
                    input += (char) (word >> shift & 255);
                }
            }
            return input.length();
        }

        private int load() {
            String text = input;
            input = "";
            code = 0;
            position = NONE;
            try {
                State next = new Reader(text).read();
                push(now);
                now = next;
                return now.pieces.size();
            } catch (Refusal refusal) {
                code = refusal.code;
                position = refusal.position;
                return PARSE_ERROR;
            }
        }

        private int find(int what) {
            String name = input;
            input = "";
            if (!name.matches("[a-z]{1,6}") || name.endsWith("\n")) {
                return PARSE_ERROR;
            }
            List<String> names = new ArrayList<>();
            switch (what) {
                case 0: now.yarns.forEach(yarn -> names.add(yarn.name)); break;
                case 1: now.shapes.forEach(shape -> names.add(shape.name)); break;
                default: now.sizes.forEach(size -> names.add(size.name)); break;
            }
            return names.indexOf(name);
        }

        private void push(State state) {
            before.push(state.copy());
            if (before.size() > 10) {
                before.removeLast();
            }
        }

        private int change(String name, int[] a) {
            State old = now.copy();
            int answer = changed(name, a);
            boolean always = name.equals("day") || answer != NONE && (name.equals("boardAll") || name.equals("pack"));
            if (always || !now.whole().equals(old.whole())) {
                push(old);
            }
            return answer;
        }

        private int changed(String name, int[] a) {
            switch (name) {
                case "day": return now.day();
                case "boardAll":
                    return now.pieces.stream().noneMatch(piece -> piece.state == 0) ? NONE : now.boardAll(a[0]);
                case "board": {
                    Piece piece = now.pieces.get(a[0]);
                    if (piece.state > 1) {
                        return WRONG_STATE;
                    }
                    now.board(piece, a[1]);
                    return piece.state;
                }
                case "dye": {
                    Piece piece = now.pieces.get(a[0]);
                    int shade = piece.shade;
                    if (piece.state == 3) {
                        return WRONG_STATE;
                    }
                    piece.shade = a[1];
                    return shade;
                }
                case "setTolerance": {
                    int length = now.lengthTolerance;
                    now.lengthTolerance = a[0];
                    now.shadeTolerance = a[1];
                    return length;
                }
                case "setSteam": {
                    int strength = now.strength;
                    now.strength = a[0];
                    return strength;
                }
                default: {
                    int[] partners = now.bestPairing();
                    List<Integer> packed = now.packed(partners);
                    for (int lower : packed) {
                        now.pieces.get(lower).state = 3;
                        now.pieces.get(partners[lower]).state = 3;
                    }
                    return packed.isEmpty() ? NONE : packed.size() / now.box;
                }
            }
        }

        private int ofPiece(String name, int[] a) {
            Piece piece = now.pieces.get(a[0]);
            switch (name) {
                case "length": return piece.length;
                case "knitted": return piece.knitted;
                case "shade": return piece.shade;
                case "yarnOf": return piece.yarn;
                case "kindOf": return Arrays.asList("plain", "ribbed", "lace").indexOf(piece.kind);
                case "state": return piece.state;
                case "stretchLimit": return now.limit(piece);
                case "longestShape": return now.longest(piece);
                case "ifBoarded": return piece.state > 1 ? WRONG_STATE : now.lengthOn(piece, a[1]);
                case "sizeOf": return now.sizeOf(piece.length);
                case "isMatch": return now.match(a[0], a[1]) ? 1 : 0;
                case "gap": return now.gap(a[0], a[1]);
                case "matches": return now.matches(a[0]);
                case "nearest": {
                    int best = NONE;
                    for (int i = now.pieces.size() - 1; i >= 0; i--) {
                        if (now.match(a[0], i) && (best == NONE || now.gap(a[0], i) <= now.gap(a[0], best))) {
                            best = i;
                        }
                    }
                    return best;
                }
                case "partner": return now.bestPairing()[a[0]];
                case "groupOf": return piece.state == 1 ? now.lowestConnected(a[0]) : WRONG_STATE;
                case "bestDye": return piece.state == 1 ? bestDye(a[0]) : WRONG_STATE;
                case "daysToSize": {
                    State copy = now.copy();
                    for (int i = 0; i <= 60; i++, copy.day()) {
                        if (copy.sizeOf(copy.pieces.get(a[0]).length) == a[1]) {
                            return i;
                        }
                    }
                    return NONE;
                }
                default: {
                    int best = NONE;
                    for (int i = now.shapes.size() - 1; i >= 0; i--) {
                        int length = now.lengthOn(piece, i);
                        if (length != NONE && (best == NONE
                                || Math.abs(length - a[1]) <= Math.abs(now.lengthOn(piece, best) - a[1]))) {
                            best = i;
                        }
                    }
                    return piece.state > 1 ? WRONG_STATE : best;
                }
            }
        }

        private int bestDye(int piece) {
            State copy = now.copy();
            int present = now.pieces.get(piece).shade;
            int best = present;
            int most = copy.pairs();
            for (int distance = 1; distance < 256; distance++) {
                for (int shade : new int[] {present - distance, present + distance}) {
                    if (shade >= 0 && shade <= 255) {
                        copy.pieces.get(piece).shade = shade;
                        int pairs = copy.matches(piece) == 0 ? 0 : copy.pairs();
                        if (pairs > most) {
                            most = pairs;
                            best = shade;
                        }
                    }
                }
            }
            return best;
        }

        private int ofPlant(String name, int[] a) {
            switch (name) {
                case "yarnCount": return now.yarns.size();
                case "shapeCount": return now.shapes.size();
                case "sizeCount": return now.sizes.size();
                case "pieceCount": return now.pieces.size();
                case "days": return now.days;
                case "lengthTolerance": return now.lengthTolerance;
                case "shadeTolerance": return now.shadeTolerance;
                case "steam": return now.strength;
                case "sorted": {
                    List<Piece> order = new ArrayList<>(now.pieces);
                    order.sort(Comparator.comparingInt((Piece piece) -> piece.length).thenComparingInt(piece -> piece.shade));
                    return a[0] < order.size() ? now.pieces.indexOf(order.get(a[0])) : NONE;
                }
                case "lengthRange": {
                    int[] lengths = now.pieces.stream().filter(piece -> piece.state == 1).mapToInt(piece -> piece.length).sorted().toArray();
                    return lengths.length == 0 ? NONE : lengths[lengths.length - 1] - lengths[0];
                }
                case "inState": case "ofYarn": case "ofSize": case "seconds": return set(name, a);
                case "ifDays": case "bestDay": case "ifAllBoarded": case "bestShape":
                case "leastSteam": case "leastTolerance": case "ifTolerance": return prediction(name, a);
                default: return ofPairing(name, a, now.bestPairing());
            }
        }

        private int set(String name, int[] a) {
            int set = 0;
            int[] partners = now.bestPairing();
            for (int i = 0; i < now.pieces.size(); i++) {
                Piece piece = now.pieces.get(i);
                boolean in;
                switch (name) {
                    case "inState": in = piece.state == a[0]; break;
                    case "ofYarn": in = piece.yarn == a[0]; break;
                    case "ofSize": in = now.sizeOf(piece.length) == a[0]; break;
                    default: in = piece.state == 2 || piece.state == 1 && partners[i] == NONE; break;
                }
                set |= in ? 1 << i : 0;
            }
            return set;
        }

        private int ofPairing(String name, int[] a, int[] partners) {
            List<Integer> lowers = new ArrayList<>();
            int groups = 0;
            for (int i = 0; i < partners.length; i++) {
                if (partners[i] > i) {
                    lowers.add(i);
                }
                groups += now.pieces.get(i).state == 1 && now.lowestConnected(i) == i ? 1 : 0;
            }
            switch (name) {
                case "pairCount": return lowers.size();
                case "pairGap": return now.gaps(partners);
                case "pair": return a[0] < lowers.size() ? 16 * lowers.get(a[0]) + partners[lowers.get(a[0])] : NONE;
                case "pairSize":
                    return a[0] >= lowers.size() ? NONE : now.sizeOf(now.pieces.get(lowers.get(a[0])).length,
                            now.pieces.get(partners[lowers.get(a[0])]).length);
                case "groupCount": return groups;
                case "boxCount": return now.packed(partners).size() / now.box;
                case "worstPair": {
                    int worst = NONE;
                    for (int i = lowers.size() - 1; i >= 0; i--) {
                        if (worst == NONE || now.gap(lowers.get(i), partners[lowers.get(i)])
                                >= now.gap(lowers.get(worst), partners[lowers.get(worst)])) {
                            worst = i;
                        }
                    }
                    return worst;
                }
                default: throw new IllegalStateException("the model has no " + name);
            }
        }

        private int pairsOnShape(int shape, int strength) {
            State copy = now.copy();
            copy.strength = strength;
            copy.boardAll(shape);
            return copy.pairs();
        }

        private int pairsWithin(int length, int shade) {
            State copy = now.copy();
            copy.lengthTolerance = length;
            copy.shadeTolerance = shade;
            return copy.pairs();
        }

        private int prediction(String name, int[] a) {
            switch (name) {
                case "ifTolerance": return pairsWithin(a[0], a[1]);
                case "ifAllBoarded": return pairsOnShape(a[0], now.strength);
                case "bestShape": {
                    int best = NONE;
                    for (int i = now.shapes.size() - 1; i >= 0; i--) {
                        if (best == NONE || pairsOnShape(i, now.strength) >= pairsOnShape(best, now.strength)) {
                            best = i;
                        }
                    }
                    return best;
                }
                case "leastSteam":
                    for (int i = 0; i <= 100; i++) {
                        if (pairsOnShape(a[0], i) >= a[1]) {
                            return i;
                        }
                    }
                    return NONE;
                case "leastTolerance":
                    for (int i = 0; i <= 500; i++) {
                        if (pairsWithin(i, now.shadeTolerance) >= a[0]) {
                            return i;
                        }
                    }
                    return NONE;
                default: {
                    State copy = now.copy();
                    int best = 0;
                    int most = copy.pairs();
                    for (int i = 1; i <= a[0]; i++) {
                        copy.day();
                        int pairs = copy.pairs();
                        if (pairs > most) {
                            most = pairs;
                            best = i;
                        }
                    }
                    return name.equals("ifDays") ? copy.pairs() : best;
                }
            }
        }
    }
}
