/**
 * A simulator of a finishing plant for hosiery: knitted pieces are stretched on shapes and steamed,
 * relax from day to day, are measured, matched into pairs within tolerances, sorted by size, and
 * packed into boxes. The constructor makes everything; later only the output text may grow.
 */
public final class HosieryPlant {
    public static final int NONE = -1;
    public static final int INVALID = -2;
    public static final int PARSE_ERROR = -4;
    public static final int WRONG_STATE = -6;

    private static final int RAW = 0;
    private static final int BOARDED = 1;
    private static final int TORN = 2;
    private static final int PACKED = 3;

    private static final int PLAIN = 0;
    private static final int RIBBED = 1;
    private static final int LACE = 2;

    private static final int MOST_BYTES = 1200;
    private static final int MOST_YARNS = 6;
    private static final int MOST_SHAPES = 8;
    private static final int MOST_SIZES = 6;
    private static final int MOST_PIECES = 14;
    private static final int MOST_PAIRS = 7;
    private static final int MOST_UNDO = 10;
    private static final int MOST_DAYS = 60;

    private static final int LEAST_LENGTH = 500;
    private static final int GREATEST_LENGTH = 9999;
    private static final int GREATEST_SHADE = 255;
    private static final int GREATEST_LENGTH_TOLERANCE = 500;
    private static final int GREATEST_STRENGTH = 100;

    // The input buffer is the row that the parser reads.
    private final int[] input;
    private int inputLength;
    private final StringBuilder output;
    private final Parser parser;
    private final Plant plant;
    // The copy on which predictions work.
    private final Plant trial;
    private final History history;
    private final Matching matching;
    private final Pairing pairing;

    public HosieryPlant() {
        parser = new Parser();
        input = parser.text;
        output = new StringBuilder();
        plant = new Plant();
        trial = new Plant();
        history = new History();
        matching = new Matching();
        pairing = new Pairing();
    }

    // ---- The input buffer and the text ----

    public int append(int a, int b, int c, int d, int e) {
        if (inputLength + 20 > MOST_BYTES) {
            return NONE;
        }
        appendBytes(a);
        appendBytes(b);
        appendBytes(c);
        appendBytes(d);
        appendBytes(e);
        return inputLength;
    }

    public int truncate(int length) {
        if (length < 0 || length > inputLength) {
            return NONE;
        }
        inputLength = length;
        return length;
    }

    public int load() {
        boolean right = parser.read(inputLength);
        inputLength = 0;
        if (!right) {
            return PARSE_ERROR;
        }
        beforeChange();
        plant.copyFrom(parser.draft);
        return plant.pieces;
    }

    public int errorCode() {
        return parser.code;
    }

    public int errorPosition() {
        return parser.position;
    }

    public int find(int what) {
        if (what < 0 || what > 2) {
            return INVALID;
        }
        int name = packName(input, 0, inputLength);
        inputLength = 0;
        if (name == NONE) {
            return PARSE_ERROR;
        }
        Catalogue catalogue = plant.catalogue;
        if (what == 0) {
            return indexOfName(catalogue.yarnNames, catalogue.yarns, name);
        }
        if (what == 1) {
            return indexOfName(catalogue.shapeNames, catalogue.shapes, name);
        }
        return indexOfName(catalogue.sizeNames, catalogue.sizes, name);
    }

    // ---- Counts and settings ----

    public int yarnCount() {
        return plant.catalogue.yarns;
    }

    public int shapeCount() {
        return plant.catalogue.shapes;
    }

    public int sizeCount() {
        return plant.catalogue.sizes;
    }

    public int pieceCount() {
        return plant.pieces;
    }

    public int days() {
        return plant.days;
    }

    public int undoCount() {
        return history.count;
    }

    public int lengthTolerance() {
        return plant.lengthTolerance;
    }

    public int shadeTolerance() {
        return plant.shadeTolerance;
    }

    public int steam() {
        return plant.strength;
    }

    // ---- Questions about pieces ----

    public int length(int piece) {
        return isPiece(piece) ? at(plant.lengths, piece) : INVALID;
    }

    public int knitted(int piece) {
        return isPiece(piece) ? at(plant.knitted, piece) : INVALID;
    }

    public int shade(int piece) {
        return isPiece(piece) ? at(plant.shades, piece) : INVALID;
    }

    public int yarnOf(int piece) {
        return isPiece(piece) ? at(plant.yarns, piece) : INVALID;
    }

    public int kindOf(int piece) {
        return isPiece(piece) ? at(plant.kinds, piece) : INVALID;
    }

    public int state(int piece) {
        return isPiece(piece) ? at(plant.states, piece) : INVALID;
    }

    public int inState(int state) {
        if (state < RAW || state > PACKED) {
            return INVALID;
        }
        return setWhere(plant.states, state);
    }

    public int ofYarn(int yarn) {
        if (yarn < 0 || yarn >= plant.catalogue.yarns) {
            return INVALID;
        }
        return setWhere(plant.yarns, yarn);
    }

    public int stretchLimit(int piece) {
        return isPiece(piece) ? plant.stretchOf(piece) : INVALID;
    }

    public int longestShape(int piece) {
        return isPiece(piece) ? plant.reachOf(piece) : INVALID;
    }

    public int ifBoarded(int piece, int shape) {
        if (!isPiece(piece) || !isShape(shape)) {
            return INVALID;
        }
        if (!plant.canBeBoarded(piece)) {
            return WRONG_STATE;
        }
        return plant.lengthOn(piece, shape);
    }

    public int shapeFor(int piece, int length) {
        if (!isPiece(piece) || !isBetween(length, LEAST_LENGTH, GREATEST_LENGTH)) {
            return INVALID;
        }
        if (!plant.canBeBoarded(piece)) {
            return WRONG_STATE;
        }
        int best = NONE;
        int least = 0;
        for (int shape = 0; shape < plant.catalogue.shapes; shape++) {
            int boarded = plant.lengthOn(piece, shape);
            int distance = Math.abs(boarded - length);
            if (boarded != NONE && (best == NONE || distance < least)) {
                best = shape;
                least = distance;
            }
        }
        return best;
    }

    public int sizeOf(int piece) {
        return isPiece(piece) ? plant.sizeOfPiece(piece) : INVALID;
    }

    public int ofSize(int size) {
        if (!isSize(size)) {
            return INVALID;
        }
        int set = 0;
        for (int i = 0; i < plant.pieces; i++) {
            if (plant.sizeOfPiece(i) == size) {
                set |= 1 << i;
            }
        }
        return set;
    }

    public int sorted(int position) {
        if (position < 0) {
            return INVALID;
        }
        for (int i = 0; i < plant.pieces; i++) {
            if (plant.rankOf(i) == position) {
                return i;
            }
        }
        return NONE;
    }

    public int lengthRange() {
        int least = GREATEST_LENGTH;
        int greatest = NONE;
        for (int i = 0; i < plant.pieces; i++) {
            if (plant.isBoarded(i)) {
                least = Math.min(least, at(plant.lengths, i));
                greatest = Math.max(greatest, at(plant.lengths, i));
            }
        }
        return greatest == NONE ? NONE : greatest - least;
    }

    // ---- Calls that change the plant ----

    public int board(int piece, int shape) {
        if (!isPiece(piece) || !isShape(shape)) {
            return INVALID;
        }
        if (!plant.canBeBoarded(piece)) {
            return WRONG_STATE;
        }
        if (!plant.isBoarded(piece) || plant.lengthOn(piece, shape) != at(plant.lengths, piece)) {
            beforeChange();
            plant.boardOn(piece, shape);
        }
        return at(plant.states, piece);
    }

    public int boardAll(int shape) {
        if (!isShape(shape)) {
            return INVALID;
        }
        if (setWhere(plant.states, RAW) == 0) {
            return NONE;
        }
        beforeChange();
        return plant.boardRaw(shape);
    }

    public int day() {
        beforeChange();
        return plant.passDay();
    }

    public int dye(int piece, int shade) {
        if (!isPiece(piece) || !isBetween(shade, 0, GREATEST_SHADE)) {
            return INVALID;
        }
        if (at(plant.states, piece) == PACKED) {
            return WRONG_STATE;
        }
        int before = at(plant.shades, piece);
        if (before != shade) {
            beforeChange();
            put(plant.shades, piece, shade);
        }
        return before;
    }

    public int setTolerance(int length, int shade) {
        if (!areTolerances(length, shade)) {
            return INVALID;
        }
        int before = plant.lengthTolerance;
        if (before != length || plant.shadeTolerance != shade) {
            beforeChange();
            plant.lengthTolerance = length;
            plant.shadeTolerance = shade;
        }
        return before;
    }

    public int setSteam(int strength) {
        if (!isBetween(strength, 0, GREATEST_STRENGTH)) {
            return INVALID;
        }
        int before = plant.strength;
        if (before != strength) {
            beforeChange();
            plant.strength = strength;
        }
        return before;
    }

    public int pack() {
        findPairs();
        int set = packableSet();
        if (set == 0) {
            return NONE;
        }
        beforeChange();
        for (int i = 0; i < plant.pieces; i++) {
            if (contains(set, i)) {
                put(plant.states, i, PACKED);
            }
        }
        return boxesOf(set);
    }

    public int boxCount() {
        findPairs();
        return boxesOf(packableSet());
    }

    public int undo() {
        if (history.count == 0) {
            return NONE;
        }
        history.takeBack(plant);
        pairing.known = false;
        return history.count;
    }

    // ---- Matches, pairs and groups ----

    public int isMatch(int first, int second) {
        if (!areTwoPieces(first, second)) {
            return INVALID;
        }
        return plant.fits(first, second) ? 1 : 0;
    }

    public int gap(int first, int second) {
        return areTwoPieces(first, second) ? plant.gapOf(first, second) : INVALID;
    }

    public int matches(int piece) {
        return isPiece(piece) ? plant.matchSet(piece) : INVALID;
    }

    public int nearest(int piece) {
        if (!isPiece(piece)) {
            return INVALID;
        }
        int best = NONE;
        for (int i = 0; i < plant.pieces; i++) {
            if (plant.fits(piece, i)
                    && (best == NONE || plant.gapOf(piece, i) < plant.gapOf(piece, best))) {
                best = i;
            }
        }
        return best;
    }

    public int pairCount() {
        findPairs();
        return pairing.pairs;
    }

    public int pairGap() {
        findPairs();
        return pairing.gapSum;
    }

    public int partner(int piece) {
        if (!isPiece(piece)) {
            return INVALID;
        }
        findPairs();
        return at(pairing.partners, piece);
    }

    public int pair(int index) {
        if (index < 0) {
            return INVALID;
        }
        findPairs();
        int lower = pairing.lowerOf(index);
        return lower == NONE ? NONE : 16 * lower + at(pairing.partners, lower);
    }

    public int pairSize(int index) {
        if (index < 0) {
            return INVALID;
        }
        findPairs();
        int lower = pairing.lowerOf(index);
        return lower == NONE ? NONE : sizeOfPair(lower);
    }

    public int worstPair() {
        findPairs();
        int worst = NONE;
        int greatest = NONE;
        for (int i = 0; i < pairing.pairs; i++) {
            int lower = pairing.lowerOf(i);
            int gap = plant.gapOf(lower, at(pairing.partners, lower));
            if (gap > greatest) {
                worst = i;
                greatest = gap;
            }
        }
        return worst;
    }

    public int seconds() {
        findPairs();
        int set = setWhere(plant.states, TORN);
        for (int i = 0; i < plant.pieces; i++) {
            if (plant.isBoarded(i) && at(pairing.partners, i) == NONE) {
                set |= 1 << i;
            }
        }
        return set;
    }

    public int groupCount() {
        int groups = 0;
        for (int i = 0; i < plant.pieces; i++) {
            if (plant.isBoarded(i) && lowestOf(plant.groupSet(i)) == i) {
                groups++;
            }
        }
        return groups;
    }

    public int groupOf(int piece) {
        if (!isPiece(piece)) {
            return INVALID;
        }
        return plant.isBoarded(piece) ? lowestOf(plant.groupSet(piece)) : WRONG_STATE;
    }

    // ---- Predictions, all of them on the trial plant ----

    public int ifDays(int days) {
        if (!isBetween(days, 0, MOST_DAYS)) {
            return INVALID;
        }
        trial.copyFrom(plant);
        for (int i = 0; i < days; i++) {
            trial.passDay();
        }
        return matching.mostPairs(trial);
    }

    public int bestDay(int days) {
        if (!isBetween(days, 0, MOST_DAYS)) {
            return INVALID;
        }
        trial.copyFrom(plant);
        int best = 0;
        int most = NONE;
        for (int i = 0; i <= days; i++) {
            int pairs = matching.mostPairs(trial);
            if (pairs > most) {
                best = i;
                most = pairs;
            }
            trial.passDay();
        }
        return best;
    }

    public int daysToSize(int piece, int size) {
        if (!isPiece(piece) || !isSize(size)) {
            return INVALID;
        }
        trial.copyFrom(plant);
        for (int i = 0; i <= MOST_DAYS; i++) {
            if (trial.sizeOfPiece(piece) == size) {
                return i;
            }
            trial.passDay();
        }
        return NONE;
    }

    public int ifAllBoarded(int shape) {
        return isShape(shape) ? pairsIfBoarded(shape, plant.strength) : INVALID;
    }

    public int bestShape() {
        int best = NONE;
        int most = NONE;
        for (int shape = 0; shape < plant.catalogue.shapes; shape++) {
            int pairs = pairsIfBoarded(shape, plant.strength);
            if (pairs > most) {
                best = shape;
                most = pairs;
            }
        }
        return best;
    }

    public int leastSteam(int shape, int pairs) {
        if (!isShape(shape) || !isBetween(pairs, 1, MOST_PAIRS)) {
            return INVALID;
        }
        for (int strength = 0; strength <= GREATEST_STRENGTH; strength++) {
            if (pairsIfBoarded(shape, strength) >= pairs) {
                return strength;
            }
        }
        return NONE;
    }

    public int leastTolerance(int pairs) {
        if (!isBetween(pairs, 1, MOST_PAIRS)) {
            return INVALID;
        }
        int shade = plant.shadeTolerance;
        if (pairsWithin(GREATEST_LENGTH_TOLERANCE, shade) < pairs) {
            return NONE;
        }
        int low = 0;
        int high = GREATEST_LENGTH_TOLERANCE;
        // A wider tolerance never loses a pair, so halving finds the least; 10 halvings are enough for 501.
        for (int i = 0; i < 10 && low < high; i++) {
            int middle = (low + high) / 2;
            if (pairsWithin(middle, shade) >= pairs) {
                high = middle;
            } else {
                low = middle + 1;
            }
        }
        return high;
    }

    public int ifTolerance(int length, int shade) {
        return areTolerances(length, shade) ? pairsWithin(length, shade) : INVALID;
    }

    public int bestDye(int piece) {
        if (!isPiece(piece)) {
            return INVALID;
        }
        if (!plant.isBoarded(piece)) {
            return WRONG_STATE;
        }
        trial.copyFrom(plant);
        int now = at(plant.shades, piece);
        int best = now;
        int most = NONE;
        int pairs = 0;
        int friends = NONE;
        for (int shade = 0; shade <= GREATEST_SHADE; shade++) {
            put(trial.shades, piece, shade);
            int set = trial.matchSet(piece);
            // The number of pairs can change only where the piece's matches do.
            if (set != friends) {
                pairs = matching.mostPairs(trial);
                friends = set;
            }
            boolean nearer = Math.abs(shade - now) < Math.abs(best - now);
            if (pairs > most || pairs == most && nearer) {
                best = shade;
                most = pairs;
            }
        }
        return best;
    }

    // ---- The output buffer ----

    public int writePlant() {
        output.setLength(0);
        output.append("tolerance").append(' ').append(plant.lengthTolerance);
        output.append(' ').append(plant.shadeTolerance).append(';');
        output.append("steam").append(' ').append(plant.strength).append(';');
        output.append("box").append(' ').append(plant.box).append(';');
        writeCatalogue(plant.catalogue);
        for (int i = 0; i < plant.pieces; i++) {
            output.append("piece").append(' ');
            writeName(at(plant.catalogue.yarnNames, at(plant.yarns, i)));
            output.append(' ').append(kindWord(at(plant.kinds, i)));
            output.append(' ').append(at(plant.knitted, i));
            output.append(' ').append(at(plant.shades, i)).append(';');
        }
        return output.length();
    }

    public int outputByte(int index) {
        if (index < 0 || index >= output.length()) {
            return NONE;
        }
        return output.charAt(index);
    }

    // ---- Helpers of the public calls ----

    private void appendBytes(int four) {
        for (int shift = 24; shift >= 0; shift -= 8) {
            put(input, inputLength, four >>> shift & 255);
            inputLength++;
        }
    }

    /** Keeps the plant for undo(); every call that changes the plant comes through here first. */
    private void beforeChange() {
        history.keep(plant);
        pairing.known = false;
    }

    private void findPairs() {
        if (!pairing.known) {
            matching.pairUp(plant, pairing);
            pairing.known = true;
        }
    }

    private boolean isPiece(int piece) {
        return piece >= 0 && piece < plant.pieces;
    }

    private boolean areTwoPieces(int first, int second) {
        return isPiece(first) && isPiece(second) && first != second;
    }

    private boolean isShape(int shape) {
        return shape >= 0 && shape < plant.catalogue.shapes;
    }

    private boolean isSize(int size) {
        return size >= 0 && size < plant.catalogue.sizes;
    }

    private static boolean areTolerances(int length, int shade) {
        return isBetween(length, 0, GREATEST_LENGTH_TOLERANCE) && isBetween(shade, 0, GREATEST_SHADE);
    }

    /** The pieces for which the row, which has a place for each piece, holds this value. */
    private int setWhere(int[] row, int value) {
        int set = 0;
        for (int i = 0; i < plant.pieces; i++) {
            if (at(row, i) == value) {
                set |= 1 << i;
            }
        }
        return set;
    }

    private int pairsIfBoarded(int shape, int strength) {
        trial.copyFrom(plant);
        trial.strength = strength;
        trial.boardRaw(shape);
        return matching.mostPairs(trial);
    }

    private int pairsWithin(int length, int shade) {
        trial.copyFrom(plant);
        trial.lengthTolerance = length;
        trial.shadeTolerance = shade;
        return matching.mostPairs(trial);
    }

    /** The size of the pair that this piece is the lower one of; NONE if it is not, or has no size. */
    private int sizeOfPair(int lower) {
        int higher = at(pairing.partners, lower);
        if (higher <= lower) {
            return NONE;
        }
        int first = at(plant.lengths, lower);
        int second = at(plant.lengths, higher);
        return plant.catalogue.sizeHolding(Math.min(first, second), Math.max(first, second));
    }

    /** The pieces that pack() would pack; the pairs must have been found. */
    private int packableSet() {
        int set = 0;
        for (int i = 0; i < plant.pieces; i++) {
            if (isInFullBox(i)) {
                set |= 1 << i | 1 << at(pairing.partners, i);
            }
        }
        return set;
    }

    /** Whether this piece is the lower one of a pair that is among those in its group's full boxes. */
    private boolean isInFullBox(int lower) {
        if (sizeOfPair(lower) == NONE || plant.box <= 0) {
            return false;
        }
        int before = 0;
        int all = 0;
        for (int i = 0; i < plant.pieces; i++) {
            if (isBoxedWith(lower, i)) {
                all++;
                before += i < lower ? 1 : 0;
            }
        }
        return before < all / plant.box * plant.box;
    }

    private boolean isBoxedWith(int lower, int other) {
        return at(plant.yarns, lower) == at(plant.yarns, other)
                && at(plant.kinds, lower) == at(plant.kinds, other)
                && sizeOfPair(lower) == sizeOfPair(other);
    }

    private int boxesOf(int set) {
        return plant.box > 0 ? Integer.bitCount(set) / 2 / plant.box : 0;
    }

    private void writeCatalogue(Catalogue catalogue) {
        for (int i = 0; i < catalogue.yarns; i++) {
            output.append("yarn").append(' ');
            writeName(at(catalogue.yarnNames, i));
            output.append(' ').append(at(catalogue.stretches, i));
            output.append(' ').append(at(catalogue.recoveries, i)).append(';');
        }
        for (int i = 0; i < catalogue.shapes; i++) {
            output.append("shape").append(' ');
            writeName(at(catalogue.shapeNames, i));
            output.append(' ').append(at(catalogue.shapeLengths, i)).append(';');
        }
        for (int i = 0; i < catalogue.sizes; i++) {
            output.append("size").append(' ');
            writeName(at(catalogue.sizeNames, i));
            output.append(' ').append(at(catalogue.sizeLeasts, i));
            output.append(' ').append(at(catalogue.sizeGreatests, i)).append(';');
        }
    }

    private void writeName(int name) {
        for (int shift = 25; shift >= 0; shift -= 5) {
            int letter = name >> shift & 31;
            if (letter != 0) {
                output.append((char) ('a' + letter - 1));
            }
        }
    }

    private static String kindWord(int kind) {
        if (kind == PLAIN) {
            return "plain";
        }
        return kind == RIBBED ? "ribbed" : "lace";
    }

    // ---- Rows, sets and names ----

    /** The element of a row; 0 outside it, so that the machine never refuses an index. */
    private static int at(int[] row, int index) {
        return index >= 0 && index < row.length ? row[index] : 0;
    }

    private static void put(int[] row, int index, int value) {
        if (index >= 0 && index < row.length) {
            row[index] = value;
        }
    }

    private static void copyRow(int[] from, int[] to) {
        System.arraycopy(from, 0, to, 0, Math.min(from.length, to.length));
    }

    private static boolean isBetween(int value, int least, int greatest) {
        return value >= least && value <= greatest;
    }

    private static boolean contains(int set, int element) {
        return (set >> element & 1) != 0;
    }

    /** The lowest element of a set that is not empty. */
    private static int lowestOf(int set) {
        return Integer.bitCount((set & -set) - 1);
    }

    private static boolean isLetter(int sign) {
        return sign >= 'a' && sign <= 'z';
    }

    /** A name as a number, five bits a letter; NONE if these bytes are not 1 to 6 letters. */
    private static int packName(int[] text, int from, int to) {
        if (to - from < 1 || to - from > 6) {
            return NONE;
        }
        int name = 0;
        for (int i = from; i < to; i++) {
            int sign = at(text, i);
            if (!isLetter(sign)) {
                return NONE;
            }
            name = name << 5 | sign - 'a' + 1;
        }
        return name;
    }

    private static int indexOfName(int[] names, int count, int name) {
        for (int i = 0; i < count; i++) {
            if (at(names, i) == name) {
                return i;
            }
        }
        return NONE;
    }

    /** The yarns, shapes and sizes of a plant. */
    private static final class Catalogue {
        int yarns;
        int shapes;
        int sizes;
        final int[] yarnNames;
        final int[] stretches;
        final int[] recoveries;
        final int[] shapeNames;
        final int[] shapeLengths;
        final int[] sizeNames;
        final int[] sizeLeasts;
        final int[] sizeGreatests;

        Catalogue() {
            yarnNames = new int[MOST_YARNS];
            stretches = new int[MOST_YARNS];
            recoveries = new int[MOST_YARNS];
            shapeNames = new int[MOST_SHAPES];
            shapeLengths = new int[MOST_SHAPES];
            sizeNames = new int[MOST_SIZES];
            sizeLeasts = new int[MOST_SIZES];
            sizeGreatests = new int[MOST_SIZES];
        }

        void takeAll(Catalogue other) {
            yarns = other.yarns;
            shapes = other.shapes;
            sizes = other.sizes;
            copyRow(other.yarnNames, yarnNames);
            copyRow(other.stretches, stretches);
            copyRow(other.recoveries, recoveries);
            copyRow(other.shapeNames, shapeNames);
            copyRow(other.shapeLengths, shapeLengths);
            copyRow(other.sizeNames, sizeNames);
            copyRow(other.sizeLeasts, sizeLeasts);
            copyRow(other.sizeGreatests, sizeGreatests);
        }

        /** The lowest size whose range contains all lengths from shortest to longest. */
        int sizeHolding(int shortest, int longest) {
            for (int i = 0; i < sizes; i++) {
                if (at(sizeLeasts, i) <= shortest && longest <= at(sizeGreatests, i)) {
                    return i;
                }
            }
            return NONE;
        }
    }

    /** The settings, the catalogue and the pieces: all that undo() brings back. */
    private static final class Plant {
        final Catalogue catalogue;
        int lengthTolerance;
        int shadeTolerance;
        int strength;
        int box;
        int days;
        int pieces;
        final int[] yarns;
        final int[] kinds;
        final int[] knitted;
        final int[] lengths;
        final int[] shades;
        final int[] states;

        Plant() {
            catalogue = new Catalogue();
            yarns = new int[MOST_PIECES];
            kinds = new int[MOST_PIECES];
            knitted = new int[MOST_PIECES];
            lengths = new int[MOST_PIECES];
            shades = new int[MOST_PIECES];
            states = new int[MOST_PIECES];
            makeEmpty();
        }

        void makeEmpty() {
            catalogue.yarns = 0;
            catalogue.shapes = 0;
            catalogue.sizes = 0;
            lengthTolerance = 30;
            shadeTolerance = 6;
            strength = 60;
            box = 2;
            days = 0;
            pieces = 0;
        }

        void copyFrom(Plant other) {
            catalogue.takeAll(other.catalogue);
            lengthTolerance = other.lengthTolerance;
            shadeTolerance = other.shadeTolerance;
            strength = other.strength;
            box = other.box;
            days = other.days;
            pieces = other.pieces;
            copyRow(other.yarns, yarns);
            copyRow(other.kinds, kinds);
            copyRow(other.knitted, knitted);
            copyRow(other.lengths, lengths);
            copyRow(other.shades, shades);
            copyRow(other.states, states);
        }

        void addPiece(int yarn, int kind, int length, int shade) {
            if (pieces >= MOST_PIECES) {
                return;
            }
            put(yarns, pieces, yarn);
            put(kinds, pieces, kind);
            put(knitted, pieces, length);
            put(lengths, pieces, length);
            put(shades, pieces, shade);
            put(states, pieces, RAW);
            pieces++;
        }

        boolean isBoarded(int piece) {
            return at(states, piece) == BOARDED;
        }

        boolean canBeBoarded(int piece) {
            return at(states, piece) == RAW || at(states, piece) == BOARDED;
        }

        int stretchOf(int piece) {
            int stretch = at(catalogue.stretches, at(yarns, piece));
            int kind = at(kinds, piece);
            if (kind == RIBBED) {
                return stretch + 20;
            }
            return kind == LACE ? Math.max(1, stretch - 10) : stretch;
        }

        /** The greatest length to which the piece can be stretched. */
        int reachOf(int piece) {
            return at(lengths, piece) * (100 + stretchOf(piece)) / 100;
        }

        /** The piece's length after boarding; NONE if it would tear. */
        int lengthOn(int piece, int shape) {
            int target = at(catalogue.shapeLengths, shape);
            int length = at(lengths, piece);
            if (target > reachOf(piece)) {
                return NONE;
            }
            return length + (target - length) * strength / 100;
        }

        boolean boardOn(int piece, int shape) {
            int length = lengthOn(piece, shape);
            if (length == NONE) {
                put(states, piece, TORN);
                return false;
            }
            put(lengths, piece, length);
            put(states, piece, BOARDED);
            return true;
        }

        /** Boards the raw pieces; returns how many of them did not tear. */
        int boardRaw(int shape) {
            int boarded = 0;
            for (int i = 0; i < pieces; i++) {
                if (at(states, i) == RAW && boardOn(i, shape)) {
                    boarded++;
                }
            }
            return boarded;
        }

        /** Returns how many lengths changed. */
        int passDay() {
            int changed = 0;
            for (int i = 0; i < pieces; i++) {
                int length = at(lengths, i);
                int recovery = at(catalogue.recoveries, at(yarns, i));
                int back = (length - at(knitted, i)) * recovery / 100;
                if (isBoarded(i) && back != 0) {
                    put(lengths, i, length - back);
                    changed++;
                }
            }
            days++;
            return changed;
        }

        int sizeOfPiece(int piece) {
            int length = at(lengths, piece);
            return catalogue.sizeHolding(length, length);
        }

        /** The position of the piece in the order by length, then shade, then number. */
        int rankOf(int piece) {
            int rank = 0;
            for (int i = 0; i < pieces; i++) {
                int order = at(lengths, i) - at(lengths, piece);
                if (order == 0) {
                    order = at(shades, i) - at(shades, piece);
                }
                if (order == 0) {
                    order = i - piece;
                }
                if (order < 0) {
                    rank++;
                }
            }
            return rank;
        }

        boolean fits(int first, int second) {
            return first != second
                    && at(states, first) == BOARDED && at(states, second) == BOARDED
                    && at(yarns, first) == at(yarns, second)
                    && at(kinds, first) == at(kinds, second)
                    && Math.abs(at(lengths, first) - at(lengths, second)) <= lengthTolerance
                    && Math.abs(at(shades, first) - at(shades, second)) <= shadeTolerance;
        }

        int gapOf(int first, int second) {
            return Math.abs(at(lengths, first) - at(lengths, second))
                    + 10 * Math.abs(at(shades, first) - at(shades, second));
        }

        int matchSet(int piece) {
            int set = 0;
            for (int i = 0; i < pieces; i++) {
                if (fits(piece, i)) {
                    set |= 1 << i;
                }
            }
            return set;
        }

        /** All pieces that a chain of matches connects with this one, and the piece itself. */
        int groupSet(int piece) {
            int set = 1 << piece;
            int done = 0;
            // Each round looks at one piece of the set, so as many rounds as pieces are enough.
            for (int i = 0; i < pieces && done != set; i++) {
                int next = lowestOf(set & ~done);
                done |= 1 << next;
                set |= matchSet(next);
            }
            return set;
        }
    }

    /** The plants before the latest changes, in a ring: the oldest one makes room. */
    private static final class History {
        int count;
        private int oldest;
        private final Plant[] kept;

        History() {
            kept = new Plant[MOST_UNDO];
            for (int i = 0; i < MOST_UNDO; i++) {
                kept[i] = new Plant();
            }
        }

        void keep(Plant plant) {
            Plant place = placeOf(count);
            if (place != null) {
                place.copyFrom(plant);
            }
            if (count < MOST_UNDO) {
                count++;
            } else {
                oldest = (oldest + 1) % MOST_UNDO;
            }
        }

        void takeBack(Plant plant) {
            if (count <= 0) {
                return;
            }
            count--;
            Plant place = placeOf(count);
            if (place != null) {
                plant.copyFrom(place);
            }
        }

        /** The place that many steps after the oldest one, around the ring. */
        private Plant placeOf(int steps) {
            int index = (oldest + steps) % MOST_UNDO;
            return index >= 0 && index < kept.length ? kept[index] : null;
        }
    }

    /** A pairing: each piece's partner. */
    private static final class Pairing {
        // Whether it is the best pairing of the plant as it is now.
        boolean known;
        int pairs;
        int gapSum;
        final int[] partners;

        Pairing() {
            partners = new int[MOST_PIECES];
        }

        void dissolve() {
            pairs = 0;
            gapSum = 0;
            for (int i = 0; i < MOST_PIECES; i++) {
                put(partners, i, NONE);
            }
        }

        void join(int first, int second, int gap) {
            put(partners, first, second);
            put(partners, second, first);
            pairs++;
            gapSum += gap;
        }

        /** The lower piece of the pair with this index; NONE if there is no such pair. */
        int lowerOf(int index) {
            int before = 0;
            for (int i = 0; i < MOST_PIECES; i++) {
                if (at(partners, i) > i) {
                    if (before == index) {
                        return i;
                    }
                    before++;
                }
            }
            return NONE;
        }
    }

    /** Finds best pairings: a pair is worth PAIR less its gap, and the greatest worth in all is best. */
    private static final class Matching {
        // More than all gaps of a pairing together, so that a further pair is always worth more.
        private static final int PAIR = 100000;
        // A kept worth stands in the lower bits, and the round it is from above them.
        private static final int WORTH_BITS = 20;

        // For each piece the higher ones that it matches: of a set the lowest piece is paired first.
        private final int[] friends;
        private final int[] gaps;
        // The worth of each set of pieces without piece 0: no other set is asked for twice.
        private final long[] kept;
        private long round;

        Matching() {
            friends = new int[MOST_PIECES];
            gaps = new int[MOST_PIECES * MOST_PIECES];
            kept = new long[1 << MOST_PIECES - 1];
        }

        int mostPairs(Plant plant) {
            int all = takeMatches(plant, false);
            return worthOf(this, all, 0) / PAIR;
        }

        void pairUp(Plant plant, Pairing pairing) {
            int rest = takeMatches(plant, true);
            pairing.dissolve();
            for (int i = 0; i < MOST_PIECES; i++) {
                if (contains(rest, i)) {
                    int partner = lowestPartner(rest, i);
                    rest &= ~(1 << i);
                    if (partner != NONE) {
                        rest &= ~(1 << partner);
                        pairing.join(i, partner, gapBetween(i, partner));
                    }
                }
            }
        }

        /** Returns the pieces that match any other; their gaps count as 0 if they are not wanted. */
        private int takeMatches(Plant plant, boolean gapsWanted) {
            round++;
            int all = 0;
            for (int i = 0; i < plant.pieces; i++) {
                int higher = 0;
                for (int j = i + 1; j < plant.pieces; j++) {
                    if (plant.fits(i, j)) {
                        higher |= 1 << j;
                        put(gaps, i * MOST_PIECES + j, gapsWanted ? plant.gapOf(i, j) : 0);
                        all |= 1 << i | 1 << j;
                    }
                }
                put(friends, i, higher);
            }
            return all;
        }

        private int gapBetween(int first, int second) {
            return at(gaps, first * MOST_PIECES + second);
        }

        /** The lowest partner with which the first piece of rest leaves the worth at its greatest. */
        private int lowestPartner(int rest, int first) {
            int aim = worthOf(this, rest, 0);
            int others = rest & ~(1 << first) & at(friends, first);
            for (int i = first + 1; i < MOST_PIECES; i++) {
                if (contains(others, i)) {
                    int without = rest & ~(1 << first) & ~(1 << i);
                    if (PAIR - gapBetween(first, i) + worthOf(this, without, 0) == aim) {
                        return i;
                    }
                }
            }
            return NONE;
        }

        /** The worth of the best pairing of these pieces; each level has a piece less than the one above. */
        private static int worthOf(Matching of, int rest, int depth) {
            if (rest == 0 || depth > MOST_PIECES) {
                return 0;
            }
            int known = of.recall(rest);
            if (known != NONE) {
                return known;
            }
            int first = lowestOf(rest);
            int others = rest & rest - 1;
            int most = NONE;
            int bound = Integer.bitCount(rest) / 2 * PAIR;
            for (int i = first + 1; i < MOST_PIECES && most < bound; i++) {
                if (contains(others & at(of.friends, first), i)) {
                    int worth = PAIR - of.gapBetween(first, i) + worthOf(of, others & ~(1 << i), depth + 1);
                    most = Math.max(most, worth);
                }
            }
            // Leaving the first piece alone can only be better while the others could be worth more.
            if (most < Integer.bitCount(others) / 2 * PAIR) {
                most = Math.max(most, worthOf(of, others, depth + 1));
            }
            of.remember(rest, most);
            return most;
        }

        private int recall(int set) {
            int place = set >> 1;
            if (contains(set, 0) || place < 0 || place >= kept.length || kept[place] >> WORTH_BITS != round) {
                return NONE;
            }
            return (int) (kept[place] & (1 << WORTH_BITS) - 1);
        }

        private void remember(int set, int worth) {
            int place = set >> 1;
            if (!contains(set, 0) && place >= 0 && place < kept.length) {
                kept[place] = round << WORTH_BITS | worth;
            }
        }
    }

    /** Reads a text into a draft of a plant; the first refusal of a token stands. */
    private static final class Parser {
        private static final int END = 0;
        private static final int WORD = 1;
        private static final int NUMBER = 2;
        private static final int SYMBOL = 3;

        private static final int WRONG_TOKEN = 1;
        private static final int OUT_OF_RANGE = 2;
        private static final int GIVEN_TWICE = 3;
        private static final int UNKNOWN_YARN = 4;
        private static final int TOO_MANY = 5;

        // Above every range, and far below where counting further would wrap around.
        private static final int TOO_GREAT = 100000;

        final Plant draft;
        int code;
        int position;
        final int[] text;
        private int textLength;
        private int token;
        private int start;
        private int next;
        private int value;
        private boolean toleranceSeen;
        private boolean steamSeen;
        private boolean boxSeen;

        Parser() {
            text = new int[MOST_BYTES];
            draft = new Plant();
            position = NONE;
        }

        /** Whether the first bytes, so many of them, are a right text: then the draft is its plant. */
        boolean read(int bytes) {
            draft.makeEmpty();
            code = 0;
            position = NONE;
            toleranceSeen = false;
            steamSeen = false;
            boxSeen = false;
            textLength = bytes;
            next = 0;
            advance();
            // A statement takes a byte at least, so the bytes bound the statements.
            for (int i = 0; i < textLength && token != END && code == 0; i++) {
                if (spells("tolerance")) {
                    readTolerance();
                } else if (spells("steam")) {
                    readSteam();
                } else if (spells("box")) {
                    readBox();
                } else if (spells("yarn")) {
                    readYarn(draft.catalogue);
                } else if (spells("shape")) {
                    readShape(draft.catalogue);
                } else if (spells("size")) {
                    readSize(draft.catalogue);
                } else if (spells("piece")) {
                    readPiece(draft.catalogue);
                } else {
                    refuse(WRONG_TOKEN);
                }
            }
            return code == 0;
        }

        private void readTolerance() {
            startStatement(toleranceSeen, GIVEN_TWICE);
            toleranceSeen = true;
            draft.lengthTolerance = readNumber(0, GREATEST_LENGTH_TOLERANCE);
            draft.shadeTolerance = readNumber(0, GREATEST_SHADE);
            endStatement();
        }

        private void readSteam() {
            startStatement(steamSeen, GIVEN_TWICE);
            steamSeen = true;
            draft.strength = readNumber(0, GREATEST_STRENGTH);
            endStatement();
        }

        private void readBox() {
            startStatement(boxSeen, GIVEN_TWICE);
            boxSeen = true;
            draft.box = readNumber(1, 6);
            endStatement();
        }

        private void readYarn(Catalogue catalogue) {
            startStatement(catalogue.yarns >= MOST_YARNS, TOO_MANY);
            int name = takeNewName(nameHere(), catalogue.yarnNames, catalogue.yarns);
            int stretch = readNumber(1, 100);
            int recovery = readNumber(0, 50);
            endStatement();
            if (code == 0) {
                put(catalogue.yarnNames, catalogue.yarns, name);
                put(catalogue.stretches, catalogue.yarns, stretch);
                put(catalogue.recoveries, catalogue.yarns, recovery);
                catalogue.yarns++;
            }
        }

        private void readShape(Catalogue catalogue) {
            startStatement(catalogue.shapes >= MOST_SHAPES, TOO_MANY);
            int name = takeNewName(nameHere(), catalogue.shapeNames, catalogue.shapes);
            int length = readNumber(LEAST_LENGTH, GREATEST_LENGTH);
            endStatement();
            if (code == 0) {
                put(catalogue.shapeNames, catalogue.shapes, name);
                put(catalogue.shapeLengths, catalogue.shapes, length);
                catalogue.shapes++;
            }
        }

        private void readSize(Catalogue catalogue) {
            startStatement(catalogue.sizes >= MOST_SIZES, TOO_MANY);
            int name = takeNewName(nameHere(), catalogue.sizeNames, catalogue.sizes);
            int least = readNumber(LEAST_LENGTH, GREATEST_LENGTH);
            int greatest = readNumber(least, GREATEST_LENGTH);
            endStatement();
            if (code == 0) {
                put(catalogue.sizeNames, catalogue.sizes, name);
                put(catalogue.sizeLeasts, catalogue.sizes, least);
                put(catalogue.sizeGreatests, catalogue.sizes, greatest);
                catalogue.sizes++;
            }
        }

        private void readPiece(Catalogue catalogue) {
            startStatement(draft.pieces >= MOST_PIECES, TOO_MANY);
            int yarn = takeKnownYarn(nameHere(), catalogue);
            int kind = readKind();
            int length = readNumber(LEAST_LENGTH, GREATEST_LENGTH);
            int shade = readNumber(0, GREATEST_SHADE);
            int times = spells("times") ? readTimes() : 1;
            endStatement();
            for (int i = 0; i < times && code == 0; i++) {
                draft.addPiece(yarn, kind, length, shade);
            }
        }

        private int readTimes() {
            advance();
            if (token == NUMBER && isBetween(value, 1, MOST_PIECES) && draft.pieces + value > MOST_PIECES) {
                refuse(TOO_MANY);
            }
            return readNumber(1, MOST_PIECES);
        }

        /** Takes the first word of a statement, which is refused if there is a fault in it. */
        private void startStatement(boolean fault, int why) {
            if (fault) {
                refuse(why);
            }
            advance();
        }

        private void endStatement() {
            if (token != SYMBOL || at(text, start) != ';') {
                refuse(WRONG_TOKEN);
            }
            advance();
        }

        private int readNumber(int least, int greatest) {
            int number = value;
            if (token != NUMBER) {
                refuse(WRONG_TOKEN);
            } else if (!isBetween(number, least, greatest)) {
                refuse(OUT_OF_RANGE);
            }
            advance();
            return number;
        }

        private int takeNewName(int name, int[] names, int count) {
            if (name == NONE) {
                refuse(WRONG_TOKEN);
            } else if (indexOfName(names, count, name) != NONE) {
                refuse(GIVEN_TWICE);
            }
            advance();
            return name;
        }

        private int takeKnownYarn(int name, Catalogue catalogue) {
            int yarn = indexOfName(catalogue.yarnNames, catalogue.yarns, name);
            if (name == NONE) {
                refuse(WRONG_TOKEN);
            } else if (yarn == NONE) {
                refuse(UNKNOWN_YARN);
            }
            advance();
            return yarn;
        }

        /** The name that the token is; NONE if it is none. */
        private int nameHere() {
            return token == WORD && !isKeyword() ? packName(text, start, next) : NONE;
        }

        private int readKind() {
            int kind = PLAIN;
            if (spells("ribbed")) {
                kind = RIBBED;
            } else if (spells("lace")) {
                kind = LACE;
            } else if (!spells("plain")) {
                refuse(WRONG_TOKEN);
            }
            advance();
            return kind;
        }

        private boolean isKeyword() {
            return spells("tolerance") || spells("steam") || spells("box") || spells("yarn")
                    || spells("shape") || spells("size") || spells("piece") || spells("plain")
                    || spells("ribbed") || spells("lace") || spells("times");
        }

        private boolean spells(String word) {
            if (token != WORD || next - start != word.length()) {
                return false;
            }
            for (int i = 0; i < word.length(); i++) {
                if (at(text, start + i) != word.charAt(i)) {
                    return false;
                }
            }
            return true;
        }

        private void refuse(int why) {
            if (code == 0) {
                code = why;
                position = start;
            }
        }

        /** Goes to the next token; at the end of the text it stays there. */
        private void advance() {
            while (next < textLength && isBlank(at(text, next))) {
                next++;
            }
            start = next;
            value = 0;
            if (next >= textLength) {
                token = END;
            } else if (isLetter(at(text, next))) {
                token = WORD;
                while (next < textLength && isLetter(at(text, next))) {
                    next++;
                }
            } else if (isDigit(at(text, next))) {
                token = NUMBER;
                while (next < textLength && isDigit(at(text, next))) {
                    value = Math.min(value * 10 + at(text, next) - '0', TOO_GREAT);
                    next++;
                }
            } else {
                token = SYMBOL;
                next++;
            }
        }

        private static boolean isBlank(int sign) {
            return sign == ' ' || sign == '\n';
        }

        private static boolean isDigit(int sign) {
            return sign >= '0' && sign <= '9';
        }
    }
}
