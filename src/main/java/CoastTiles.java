import java.util.Arrays;

/**
 * A map maker for coasts: tiles of land and water, and for each land tile one
 * of forty-seven shapes that is picked by its eight neighbours.
 */
public final class CoastTiles {
    public static final int NO_SUCH = -1;
    public static final int BAD_VALUE = -2;
    public static final int NOT_POSSIBLE = -3;
    public static final int LIMIT = -4;
    public static final int BAD_TEXT = -5;
    public static final int NONE = -6;

    private static final int MOST_LINES = 12;
    private static final int MOST_TILES = MOST_LINES * MOST_LINES;
    private static final int FIRST_LINES = 8;
    private static final int MOST_RADIUS = 5;
    private static final int NINE_PLACES = 9;
    private static final int MOST_STATES = 5;
    private static final int MOST_CHARACTERS = 80;

    private static final int DIRECTIONS = 8;
    private static final int ALL_DIRECTIONS = 1;
    private static final int SIDES_ONLY = 2;
    private static final int ALL_BITS = 255;
    private static final int SIDE_BITS = 85;
    private static final int MASKS = 256;
    private static final int SHAPES = 47;
    private static final int UNPINNED = -1;
    private static final int UNREACHED = -1;

    private static final int[] ROW_STEPS = {-1, -1, 0, 1, 1, 1, 0, -1};
    private static final int[] COLUMN_STEPS = {0, 1, 1, 1, 0, -1, -1, -1};

    private final ShapeTable table = new ShapeTable();
    private final State map = new State();
    private final State spare = new State();
    private final State saved = new State();
    private boolean hasSaved = false;
    private final History history = new History();
    private final Spread spread = new Spread();
    private final TextMap text = new TextMap();

    public CoastTiles() {
    }

    // ---- the map

    public int begin(int rows, int columns) {
        if (!isLineCount(rows) || !isLineCount(columns)) {
            return BAD_VALUE;
        }
        history.record(map);
        map.becomeWater(rows, columns);
        return rows * columns;
    }

    public int setOutside(boolean isLand) {
        history.record(map);
        int reshaped = isLand == map.outsideIsLand ? 0 : reshapedByOutside();
        map.outsideIsLand = isLand;
        return reshaped;
    }

    public int set(int row, int column, boolean isLand) {
        if (!map.has(row, column)) {
            return NO_SUCH;
        }
        history.record(map);
        int reshaped = isLand == map.isLandAt(row, column) ? 0 : reshapedByTile(row, column);
        map.putKind(row, column, isLand);
        return reshaped;
    }

    public int fill(int row, int column, boolean isLand) {
        if (!map.has(row, column)) {
            return NO_SUCH;
        }
        history.record(map);
        if (map.isLandAt(row, column) == isLand) {
            return 0;
        }
        spread.forget();
        spread.overRegion(map, row, column, SIDES_ONLY);
        for (int filledRow = 0; filledRow < map.height; filledRow++) {
            for (int filledColumn = 0; filledColumn < map.width; filledColumn++) {
                if (spread.hasReached(filledRow, filledColumn)) {
                    map.putKind(filledRow, filledColumn, isLand);
                }
            }
        }
        return spread.reachedTiles;
    }

    public int brush(int row, int column, int radius, boolean isLand) {
        if (!map.has(row, column)) {
            return NO_SUCH;
        }
        if (radius < 0 || radius > MOST_RADIUS) {
            return BAD_VALUE;
        }
        history.record(map);
        int different = 0;
        for (int down = -radius; down <= radius; down++) {
            for (int right = -radius; right <= radius; right++) {
                if (down * down + right * right <= radius * radius
                        && map.putKind(row + down, column + right, isLand)) {
                    different++;
                }
            }
        }
        return different;
    }

    public int smooth(int least) {
        if (least < 1 || least > NINE_PLACES) {
            return BAD_VALUE;
        }
        history.record(map);
        spare.copyFrom(map);
        int different = 0;
        for (int row = 0; row < map.height; row++) {
            for (int column = 0; column < map.width; column++) {
                int landPlaces = Integer.bitCount(spare.surroundingsOf(row, column))
                        + (spare.isLandAt(row, column) ? 1 : 0);
                if (map.putKind(row, column, landPlaces >= least)) {
                    different++;
                }
            }
        }
        return different;
    }

    public int turn(int quarters) {
        if (quarters < 1 || quarters > 3) {
            return BAD_VALUE;
        }
        history.record(map);
        for (int quarter = 0; quarter < quarters; quarter++) {
            spare.copyFrom(map);
            turnOnceFromSpare();
        }
        return map.height;
    }

    public int rows() {
        return map.height;
    }

    public int columns() {
        return map.width;
    }

    // ---- tiles and shapes

    public int tile(int row, int column, int part) {
        if (!map.has(row, column)) {
            return NO_SUCH;
        }
        switch (part) {
            case 0:
                return map.isLandAt(row, column) ? 1 : 0;
            case 1:
                return map.surroundingsOf(row, column);
            case 2:
                return rightShapeAt(row, column);
            case 3:
                return shapeAt(row, column);
            case 4:
                return map.isPinnedAt(row, column) ? 1 : 0;
            case 5:
                return faultsAt(row, column);
            default:
                return BAD_VALUE;
        }
    }

    public int pin(int row, int column, int shape) {
        if (!map.has(row, column) || !isShape(shape)) {
            return NO_SUCH;
        }
        if (!map.isLandAt(row, column)) {
            return NOT_POSSIBLE;
        }
        history.record(map);
        map.putPin(row, column, shape);
        return faultsAt(row, column);
    }

    public int unpin(int row, int column) {
        if (!map.has(row, column)) {
            return NO_SUCH;
        }
        if (!map.isPinnedAt(row, column)) {
            return NOT_POSSIBLE;
        }
        history.record(map);
        int shape = map.pinAt(row, column);
        map.putPin(row, column, UNPINNED);
        return shape;
    }

    public int faults() {
        int sum = 0;
        for (int row = 0; row < map.height; row++) {
            for (int column = 0; column < map.width; column++) {
                sum += faultsAt(row, column);
            }
        }
        return sum;
    }

    public int firstFault() {
        for (int row = 0; row < map.height; row++) {
            for (int column = 0; column < map.width; column++) {
                if (faultsAt(row, column) > 0) {
                    return position(row, column);
                }
            }
        }
        return NONE;
    }

    public int maskOf(int shape) {
        return isShape(shape) ? table.maskFor(shape) : NO_SUCH;
    }

    public int shapeOf(int mask) {
        if (mask < 0 || mask >= MASKS) {
            return BAD_VALUE;
        }
        return table.shapeFor(mask);
    }

    public int turned(int shape, int quarters) {
        if (!isShape(shape)) {
            return NO_SUCH;
        }
        if (quarters < 0 || quarters > 3) {
            return BAD_VALUE;
        }
        return table.turnedShape(shape, quarters);
    }

    public int mirrored(int shape) {
        return isShape(shape) ? table.mirroredShape(shape) : NO_SUCH;
    }

    public int count(int shape) {
        if (!isShape(shape)) {
            return NO_SUCH;
        }
        int found = 0;
        for (int row = 0; row < map.height; row++) {
            for (int column = 0; column < map.width; column++) {
                if (shapeAt(row, column) == shape) {
                    found++;
                }
            }
        }
        return found;
    }

    public int shapes() {
        long seen = 0L;
        for (int row = 0; row < map.height; row++) {
            for (int column = 0; column < map.width; column++) {
                if (map.isLandAt(row, column)) {
                    seen |= 1L << shapeAt(row, column);
                }
            }
        }
        return Long.bitCount(seen);
    }

    // ---- measures

    public int land() {
        return map.landTiles();
    }

    public int landShare() {
        int tiles = map.height * map.width;
        return tiles <= 0 ? 0 : bitsOfShare((float) map.landTiles() / (float) tiles);
    }

    public int coast() {
        int pairs = 0;
        for (int row = 0; row < map.height; row++) {
            for (int column = 0; column < map.width; column++) {
                if (map.isLandAt(row, column)) {
                    pairs += Integer.bitCount(~map.surroundingsOf(row, column) & SIDE_BITS);
                }
            }
        }
        return pairs;
    }

    public int islands() {
        spread.forget();
        int found = 0;
        for (int row = 0; row < map.height; row++) {
            for (int column = 0; column < map.width; column++) {
                if (map.isLandAt(row, column) && !spread.hasReached(row, column)) {
                    spread.overRegion(map, row, column, ALL_DIRECTIONS);
                    found++;
                }
            }
        }
        return found;
    }

    public int lakes() {
        spread.forget();
        int found = 0;
        for (int row = 0; row < map.height; row++) {
            for (int column = 0; column < map.width; column++) {
                if (!map.isLandAt(row, column) && !spread.hasReached(row, column)) {
                    spread.overRegion(map, row, column, SIDES_ONLY);
                    found += spread.reachedEdge ? 0 : 1;
                }
            }
        }
        return found;
    }

    public int region(int row, int column, boolean byCorners) {
        if (!map.has(row, column)) {
            return NO_SUCH;
        }
        spread.forget();
        spread.overRegion(map, row, column, byCorners ? ALL_DIRECTIONS : SIDES_ONLY);
        return spread.reachedTiles;
    }

    public int largestIsland() {
        spread.forget();
        int most = 0;
        int first = NONE;
        for (int row = 0; row < map.height; row++) {
            for (int column = 0; column < map.width; column++) {
                if (map.isLandAt(row, column) && !spread.hasReached(row, column)) {
                    spread.overRegion(map, row, column, ALL_DIRECTIONS);
                    if (spread.reachedTiles > most) {
                        most = spread.reachedTiles;
                        first = position(row, column);
                    }
                }
            }
        }
        return first;
    }

    public int way(int row, int column, int otherRow, int otherColumn) {
        if (!map.has(row, column) || !map.has(otherRow, otherColumn)) {
            return NO_SUCH;
        }
        spread.forget();
        spread.overRegion(map, row, column, SIDES_ONLY);
        return spread.hasReached(otherRow, otherColumn)
                ? spread.stepsTo(otherRow, otherColumn) : NONE;
    }

    // ---- predictions; they change nothing

    public int coastIfChanged(int row, int column) {
        if (!map.has(row, column)) {
            return NO_SUCH;
        }
        int moreAsLand = 0;
        for (int direction = 0; direction < DIRECTIONS; direction += SIDES_ONLY) {
            int sideRow = row + rowStep(direction);
            int sideColumn = column + columnStep(direction);
            if (!map.isLandAt(sideRow, sideColumn)) {
                moreAsLand++;
            } else if (map.has(sideRow, sideColumn)) {
                // land outside is no tile: it has no coast towards this one
                moreAsLand--;
            }
        }
        return 100 + (map.isLandAt(row, column) ? -moreAsLand : moreAsLand);
    }

    public int needs(int row, int column, int shape) {
        if (!map.has(row, column) || !isShape(shape)) {
            return NO_SUCH;
        }
        int wanted = table.maskFor(shape);
        int wrong = (wanted ^ map.surroundingsOf(row, column)) & bitsThatCount(wanted);
        if ((wrong & map.outsideBitsOf(row, column)) != 0) {
            return NONE;
        }
        return Integer.bitCount(wrong);
    }

    // ---- texts

    public int append(int code) {
        if (code < 33 || code > 126) {
            return BAD_VALUE;
        }
        return text.add(code) ? text.length : LIMIT;
    }

    public int clearText() {
        int length = text.length;
        text.length = 0;
        return length;
    }

    public int errorPosition() {
        return text.parse();
    }

    public int read() {
        if (text.parse() != NONE) {
            return BAD_TEXT;
        }
        history.record(map);
        boolean outsideIsLand = map.outsideIsLand;
        map.copyFrom(text.draft);
        map.outsideIsLand = outsideIsLand;
        text.length = 0;
        return map.landTiles();
    }

    // ---- undo, saved state

    public int undo() {
        return history.takeLatest(map) ? history.kept : NOT_POSSIBLE;
    }

    public int save() {
        saved.copyFrom(map);
        hasSaved = true;
        return map.landTiles();
    }

    public int restore() {
        if (!hasSaved) {
            return NOT_POSSIBLE;
        }
        history.record(map);
        map.copyFrom(saved);
        return map.landTiles();
    }

    // ---- what the calls above share

    private static boolean isLineCount(int lines) {
        return lines >= 1 && lines <= MOST_LINES;
    }

    /** The arrays hold no line beyond MOST_LINES, so what passes here is safe as an index. */
    private static boolean isLineOf(int line, int lines) {
        return line >= 0 && line < lines && line < MOST_LINES;
    }

    private static boolean isShape(int shape) {
        return shape >= 0 && shape < SHAPES;
    }

    private static int position(int row, int column) {
        return 100 * row + column;
    }

    private static int rowStep(int direction) {
        return ROW_STEPS[direction & 7];
    }

    private static int columnStep(int direction) {
        return COLUMN_STEPS[direction & 7];
    }

    /** Moves what is at each direction to the one so many eighths of a turn further clockwise. */
    private static int rotated(int mask, int eighths) {
        return (mask << eighths | mask >> (DIRECTIONS - eighths)) & ALL_BITS;
    }

    /** The bits that a regular mask fixes: its sides, and the corners between two sides that are 1. */
    private static int bitsThatCount(int mask) {
        int sides = mask & SIDE_BITS;
        return SIDE_BITS | rotated(sides, 1) & rotated(sides, 7);
    }

    private static int regularPart(int mask) {
        return mask & bitsThatCount(mask);
    }

    /** The bits of a share from 0 to 1; doubling is exact, and ends with the leading 1 ahead of the point. */
    private static int bitsOfShare(float share) {
        if (share <= 0f) {
            return 0;
        }
        float scaled = share;
        int exponent = 127;
        for (int doubled = 0; doubled < 126 && scaled < 1f; doubled++) {
            scaled = scaled * 2f;
            exponent--;
        }
        int fraction = (int) ((scaled - 1f) * 8388608f);
        return exponent << 23 | fraction;
    }

    private int rightMaskAt(int row, int column) {
        return regularPart(map.surroundingsOf(row, column));
    }

    private int rightShapeAt(int row, int column) {
        return table.shapeFor(rightMaskAt(row, column));
    }

    private int shapeAt(int row, int column) {
        if (!map.isLandAt(row, column)) {
            return NONE;
        }
        return map.isPinnedAt(row, column) ? map.pinAt(row, column) : rightShapeAt(row, column);
    }

    private int faultsAt(int row, int column) {
        if (!map.isPinnedAt(row, column)) {
            return 0;
        }
        return Integer.bitCount(table.maskFor(map.pinAt(row, column)) ^ rightMaskAt(row, column));
    }

    /** Whether a tile gets another shape if these neighbours all become the other kind. */
    private boolean isReshapedBy(int row, int column, int changedBits) {
        if (!map.isLandAt(row, column) || map.isPinnedAt(row, column)) {
            return false;
        }
        int surroundings = map.surroundingsOf(row, column);
        return regularPart(surroundings) != regularPart(surroundings ^ changedBits);
    }

    private int reshapedByOutside() {
        int reshaped = 0;
        for (int row = 0; row < map.height; row++) {
            for (int column = 0; column < map.width; column++) {
                if (isReshapedBy(row, column, map.outsideBitsOf(row, column))) {
                    reshaped++;
                }
            }
        }
        return reshaped;
    }

    private int reshapedByTile(int row, int column) {
        int reshaped = 0;
        for (int direction = 0; direction < DIRECTIONS; direction++) {
            int nearRow = row + rowStep(direction);
            int nearColumn = column + columnStep(direction);
            int bitTowardsTile = rotated(1 << direction, 4);
            if (map.has(nearRow, nearColumn) && isReshapedBy(nearRow, nearColumn, bitTowardsTile)) {
                reshaped++;
            }
        }
        return reshaped;
    }

    private void turnOnceFromSpare() {
        map.becomeWater(spare.width, spare.height);
        for (int row = 0; row < spare.height; row++) {
            for (int column = 0; column < spare.width; column++) {
                int turnedColumn = spare.height - 1 - row;
                map.putKind(column, turnedColumn, spare.isLandAt(row, column));
                if (spare.isPinnedAt(row, column)) {
                    map.putPin(column, turnedColumn, table.turnedShape(spare.pinAt(row, column), 1));
                }
            }
        }
    }

    /** The regular masks by their shapes, and the shapes by their masks. */
    private static final class ShapeTable {
        private final int[] masks = new int[SHAPES];
        private final int[] shapesByMask = new int[MASKS];

        ShapeTable() {
            int found = 0;
            for (int mask = 0; mask < MASKS; mask++) {
                if (regularPart(mask) == mask && found < SHAPES) {
                    masks[found] = mask;
                    shapesByMask[mask] = found;
                    found++;
                } else {
                    shapesByMask[mask] = NONE;
                }
            }
        }

        int maskFor(int shape) {
            return isShape(shape) ? masks[shape] : 0;
        }

        int shapeFor(int mask) {
            return mask >= 0 && mask < MASKS ? shapesByMask[mask] : NONE;
        }

        int turnedShape(int shape, int quarters) {
            return shapeFor(rotated(maskFor(shape), 2 * quarters));
        }

        int mirroredShape(int shape) {
            int mask = maskFor(shape);
            int mirroredMask = 0;
            for (int direction = 0; direction < DIRECTIONS; direction++) {
                if ((mask >> direction & 1) != 0) {
                    mirroredMask |= 1 << (DIRECTIONS - direction & 7);
                }
            }
            return shapeFor(mirroredMask);
        }
    }

    /** All that undo and restore bring back: the tiles, their pinned shapes and what is outside. */
    private static final class State {
        private int height = FIRST_LINES;
        private int width = FIRST_LINES;
        private boolean outsideIsLand = false;
        private final boolean[] landTile = new boolean[MOST_TILES];
        private final int[] pinnedShape = new int[MOST_TILES];

        State() {
            Arrays.fill(pinnedShape, UNPINNED);
        }

        boolean has(int row, int column) {
            return isLineOf(row, height) && isLineOf(column, width);
        }

        boolean isLandAt(int row, int column) {
            return has(row, column) ? landTile[row * MOST_LINES + column] : outsideIsLand;
        }

        int pinAt(int row, int column) {
            return has(row, column) ? pinnedShape[row * MOST_LINES + column] : UNPINNED;
        }

        boolean isPinnedAt(int row, int column) {
            return pinAt(row, column) != UNPINNED;
        }

        /** Makes a tile land or water and tells whether it is different then; a place outside stays. */
        boolean putKind(int row, int column, boolean isLand) {
            if (!has(row, column) || isLandAt(row, column) == isLand) {
                return false;
            }
            landTile[row * MOST_LINES + column] = isLand;
            pinnedShape[row * MOST_LINES + column] = UNPINNED;
            return true;
        }

        void putPin(int row, int column, int shape) {
            if (has(row, column)) {
                pinnedShape[row * MOST_LINES + column] = shape;
            }
        }

        /** A number of lines that the rows cannot hold is cut down to what they can. */
        void becomeWater(int newHeight, int newWidth) {
            height = Math.min(newHeight, MOST_LINES);
            width = Math.min(newWidth, MOST_LINES);
            for (int place = 0; place < MOST_TILES; place++) {
                landTile[place] = false;
                pinnedShape[place] = UNPINNED;
            }
        }

        void copyFrom(State other) {
            height = other.height;
            width = other.width;
            outsideIsLand = other.outsideIsLand;
            for (int place = 0; place < MOST_TILES; place++) {
                landTile[place] = other.landTile[place];
                pinnedShape[place] = other.pinnedShape[place];
            }
        }

        int surroundingsOf(int row, int column) {
            int mask = 0;
            for (int direction = 0; direction < DIRECTIONS; direction++) {
                if (isLandAt(row + rowStep(direction), column + columnStep(direction))) {
                    mask |= 1 << direction;
                }
            }
            return mask;
        }

        /** The directions in which the neighbours of a tile are outside the map, as bits. */
        int outsideBitsOf(int row, int column) {
            int bits = 0;
            for (int direction = 0; direction < DIRECTIONS; direction++) {
                if (!has(row + rowStep(direction), column + columnStep(direction))) {
                    bits |= 1 << direction;
                }
            }
            return bits;
        }

        int landTiles() {
            int found = 0;
            for (int row = 0; row < height; row++) {
                for (int column = 0; column < width; column++) {
                    if (isLandAt(row, column)) {
                        found++;
                    }
                }
            }
            return found;
        }
    }

    /** The recorded states, oldest first; its rows are made once and used again. */
    private static final class History {
        private final State[] states = new State[MOST_STATES];
        private int kept = 0;

        History() {
            for (int index = 0; index < MOST_STATES; index++) {
                states[index] = new State();
            }
        }

        void record(State state) {
            if (kept >= MOST_STATES) {
                discardOldest();
            }
            if (kept >= 0 && kept < MOST_STATES && states[kept] != null) {
                states[kept].copyFrom(state);
                kept++;
            }
        }

        boolean takeLatest(State into) {
            if (kept < 1 || kept > MOST_STATES || states[kept - 1] == null) {
                return false;
            }
            kept--;
            into.copyFrom(states[kept]);
            return true;
        }

        private void discardOldest() {
            State oldest = states[0];
            for (int index = 1; index < MOST_STATES; index++) {
                states[index - 1] = states[index];
            }
            states[MOST_STATES - 1] = oldest;
            kept = MOST_STATES - 1;
        }
    }

    /** Spreads from a tile over its region, the nearest tiles first. */
    private static final class Spread {
        private final int[] queue = new int[MOST_TILES];
        private final int[] steps = new int[MOST_TILES];
        private int reachedTiles = 0;
        private boolean reachedEdge = false;

        void forget() {
            Arrays.fill(steps, UNREACHED);
        }

        boolean hasReached(int row, int column) {
            return stepsTo(row, column) != UNREACHED;
        }

        int stepsTo(int row, int column) {
            int place = row * MOST_LINES + column;
            return place >= 0 && place < MOST_TILES ? steps[place] : UNREACHED;
        }

        /** What it reached ahead of this stays reached, but reachedTiles and reachedEdge tell of this region alone. */
        void overRegion(State map, int row, int column, int directionStep) {
            reachedTiles = 0;
            reachedEdge = false;
            reach(map, row, column, 0);
            for (int next = 0; next < reachedTiles && next < MOST_TILES; next++) {
                reachNeighbours(map, queue[next], directionStep);
            }
        }

        private void reachNeighbours(State map, int place, int directionStep) {
            int row = place / MOST_LINES;
            int column = place % MOST_LINES;
            boolean isLand = map.isLandAt(row, column);
            int nextSteps = stepsTo(row, column) + 1;
            // a step of at least 1 lets the loop end whatever is asked
            for (int direction = 0; direction < DIRECTIONS; direction += Math.max(directionStep, 1)) {
                int nearRow = row + rowStep(direction);
                int nearColumn = column + columnStep(direction);
                if (map.isLandAt(nearRow, nearColumn) == isLand) {
                    reach(map, nearRow, nearColumn, nextSteps);
                }
            }
        }

        private void reach(State map, int row, int column, int stepsToIt) {
            if (!map.has(row, column) || hasReached(row, column)) {
                return;
            }
            if (reachedTiles < 0 || reachedTiles >= MOST_TILES) {
                return;
            }
            int place = row * MOST_LINES + column;
            steps[place] = stepsToIt;
            queue[reachedTiles] = place;
            reachedTiles++;
            if (row == 0 || row == map.height - 1 || column == 0 || column == map.width - 1) {
                reachedEdge = true;
            }
        }
    }

    /** The buffer, and the map that its characters draw. */
    private static final class TextMap {
        private final int[] codes = new int[MOST_CHARACTERS];
        private int length = 0;
        private final State draft = new State();
        private int row = 0;
        private int column = 0;
        private int columnsOfFirstRow = 0;
        private int number = 0;

        boolean add(int code) {
            if (length < 0 || length >= MOST_CHARACTERS) {
                return false;
            }
            codes[length] = code;
            length++;
            return true;
        }

        /** Answers as errorPosition() does; if that is NONE, the draft holds the map. */
        int parse() {
            draft.becomeWater(MOST_LINES, MOST_LINES);
            row = 0;
            column = 0;
            columnsOfFirstRow = 0;
            number = 0;
            for (int index = 0; index < length && index < MOST_CHARACTERS; index++) {
                if (!accepts(codes[index])) {
                    return index;
                }
            }
            if (number != 0 || !rowCanEnd()) {
                return length;
            }
            draft.height = row + 1;
            draft.width = column;
            return NONE;
        }

        private boolean accepts(int code) {
            if (code == '/') {
                return acceptsRowEnd();
            }
            if (code == '.' || code == '#') {
                return acceptsRun(code == '#');
            }
            return code >= '0' && code <= '9' && acceptsDigit(code - '0');
        }

        private boolean acceptsRowEnd() {
            if (number != 0 || !rowCanEnd() || row >= MOST_LINES - 1) {
                return false;
            }
            columnsOfFirstRow = column;
            row++;
            column = 0;
            return true;
        }

        private boolean acceptsRun(boolean isLand) {
            int tiles = number == 0 ? 1 : number;
            // a 1 is only the beginning of a number
            if (number == 1 || tiles > columnsLeft()) {
                return false;
            }
            for (int tile = 0; tile < tiles && tile < MOST_LINES; tile++) {
                draft.putKind(row, column + tile, isLand);
            }
            column += tiles;
            number = 0;
            return true;
        }

        private boolean acceptsDigit(int digit) {
            if (number > 1 || number == 0 && digit == 0) {
                return false;
            }
            int longer = 10 * number + digit;
            int leastTiles = longer == 1 ? 10 : longer;
            if (leastTiles > columnsLeft()) {
                return false;
            }
            number = longer;
            return true;
        }

        private boolean rowCanEnd() {
            return column > 0 && (row == 0 || column == columnsOfFirstRow);
        }

        private int columnsLeft() {
            return (row == 0 ? MOST_LINES : columnsOfFirstRow) - column;
        }
    }
}
