import java.util.ArrayList;
import java.util.List;

/** The document once more, in other words: whatever it can, it tries out instead of working it out. */
final class Model {
    static final int NO_SUCH = -1;
    static final int BAD_VALUE = -2;
    static final int NOT_POSSIBLE = -3;
    static final int LIMIT = -4;
    static final int BAD_TEXT = -5;
    static final int NONE = -6;
    private static final int[][] STEPS = {{-1, 0}, {-1, 1}, {0, 1}, {1, 1}, {1, 0}, {1, -1}, {0, -1}, {-1, -1}};
    private static final List<Integer> REGULAR = regularMasks();

    /** Rows of tiles: null for water, UNPINNED for land, otherwise the pinned shape. */
    private record Situation(Integer[][] tiles, boolean outside) {
        Situation copy() {
            Integer[][] copied = new Integer[tiles.length][];
            for (int row = 0; row < tiles.length; row++) {
                copied[row] = tiles[row].clone();
            }
            return new Situation(copied, outside);
        }
    }

    private static final int UNPINNED = -1;
    private Situation now = new Situation(new Integer[8][8], false);
    private Situation kept = null;
    private final List<Situation> past = new ArrayList<>();
    private String buffer = "";

    private static List<Integer> regularMasks() {
        List<Integer> masks = new ArrayList<>();
        for (int mask = 0; mask < 256; mask++) {
            if (regularOf(mask) == mask) {
                masks.add(mask);
            }
        }
        return masks;
    }

    private static boolean bit(int mask, int direction) {
        return (mask >> Math.floorMod(direction, 8)) % 2 == 1;
    }

    private static int regularOf(int mask) {
        int result = mask;
        for (int corner = 1; corner < 8; corner += 2) {
            if (bit(mask, corner) && !(bit(mask, corner - 1) && bit(mask, corner + 1))) {
                result -= 1 << corner;
            }
        }
        return result;
    }

    private void record() {
        past.add(now.copy());
        if (past.size() > 5) {
            past.remove(0);
        }
    }

    private boolean has(int row, int column) {
        return 0 <= row && row < now.tiles.length && 0 <= column && column < now.tiles[0].length;
    }

    private boolean isLand(int row, int column) {
        return has(row, column) ? now.tiles[row][column] != null : now.outside;
    }

    private void make(int row, int column, boolean isLand) {
        if (isLand != isLand(row, column)) {
            now.tiles[row][column] = isLand ? UNPINNED : null;
        }
    }

    private int mask(int row, int column) {
        int mask = 0;
        for (int d = 0; d < 8; d++) {
            mask += isLand(row + STEPS[d][0], column + STEPS[d][1]) ? 1 << d : 0;
        }
        return mask;
    }

    private int right(int row, int column) {
        return REGULAR.indexOf(regularOf(mask(row, column)));
    }

    private int shape(int row, int column) {
        Integer tile = now.tiles[row][column];
        return tile == null ? NONE : tile == UNPINNED ? right(row, column) : tile;
    }

    private int faults(int row, int column) {
        if (!isLand(row, column)) {
            return 0;
        }
        return Integer.bitCount(REGULAR.get(shape(row, column)) ^ REGULAR.get(right(row, column)));
    }

    private List<int[]> places() {
        List<int[]> places = new ArrayList<>();
        for (int row = 0; row < now.tiles.length; row++) {
            for (int column = 0; column < now.tiles[0].length; column++) {
                places.add(new int[] {row, column});
            }
        }
        return places;
    }

    private int[][] allShapes() {
        int[][] shapes = new int[now.tiles.length][now.tiles[0].length];
        for (int[] p : places()) {
            shapes[p[0]][p[1]] = shape(p[0], p[1]);
        }
        return shapes;
    }

    /** The steps from a tile to each tile; -1 where there is no way. Found by going over the map until nothing gets nearer. */
    private int[][] distances(int row, int column, boolean byCorners) {
        int[][] steps = new int[now.tiles.length][now.tiles[0].length];
        for (int[] line : steps) {
            java.util.Arrays.fill(line, -1);
        }
        steps[row][column] = 0;
        boolean isChanged = true;
        while (isChanged) {
            isChanged = false;
            for (int[] p : places()) {
                for (int d = 0; d < 8; d += byCorners ? 1 : 2) {
                    int r = p[0] + STEPS[d][0];
                    int c = p[1] + STEPS[d][1];
                    if (has(r, c) && steps[r][c] >= 0 && isLand(r, c) == isLand(p[0], p[1])
                            && (steps[p[0]][p[1]] < 0 || steps[p[0]][p[1]] > steps[r][c] + 1)) {
                        steps[p[0]][p[1]] = steps[r][c] + 1;
                        isChanged = true;
                    }
                }
            }
        }
        return steps;
    }

    private static int reached(int[][] steps) {
        int sum = 0;
        for (int[] line : steps) {
            for (int distance : line) {
                sum += distance >= 0 ? 1 : 0;
            }
        }
        return sum;
    }

    /** Whether no tile of the region comes ahead of this one, row by row. */
    private boolean isFirstOf(int[][] steps, int row, int column) {
        for (int[] p : places()) {
            if (steps[p[0]][p[1]] >= 0) {
                return p[0] == row && p[1] == column;
            }
        }
        return false;
    }

    int begin(int rows, int columns) {
        if (rows < 1 || rows > 12 || columns < 1 || columns > 12) {
            return BAD_VALUE;
        }
        record();
        now = new Situation(new Integer[rows][columns], now.outside);
        return rows * columns;
    }

    int setOutside(boolean isLand) {
        record();
        int[][] before = allShapes();
        now = new Situation(now.tiles, isLand);
        int different = 0;
        for (int[] p : places()) {
            different += before[p[0]][p[1]] != shape(p[0], p[1]) ? 1 : 0;
        }
        return different;
    }

    int set(int row, int column, boolean isLand) {
        if (!has(row, column)) {
            return NO_SUCH;
        }
        record();
        int[][] before = allShapes();
        make(row, column, isLand);
        int different = 0;
        for (int[] p : places()) {
            int was = before[p[0]][p[1]];
            int is = shape(p[0], p[1]);
            different += was != NONE && is != NONE && was != is ? 1 : 0;
        }
        return different;
    }

    int fill(int row, int column, boolean isLand) {
        if (!has(row, column)) {
            return NO_SUCH;
        }
        record();
        if (isLand(row, column) == isLand) {
            return 0;
        }
        int[][] steps = distances(row, column, false);
        for (int[] p : places()) {
            if (steps[p[0]][p[1]] >= 0) {
                make(p[0], p[1], isLand);
            }
        }
        return reached(steps);
    }

    int brush(int row, int column, int radius, boolean isLand) {
        if (!has(row, column)) {
            return NO_SUCH;
        }
        if (radius < 0 || radius > 5) {
            return BAD_VALUE;
        }
        record();
        int different = 0;
        for (int[] p : places()) {
            int down = p[0] - row;
            int along = p[1] - column;
            if (down * down + along * along <= radius * radius && isLand(p[0], p[1]) != isLand) {
                make(p[0], p[1], isLand);
                different++;
            }
        }
        return different;
    }

    int smooth(int least) {
        if (least < 1 || least > 9) {
            return BAD_VALUE;
        }
        record();
        List<int[]> turning = new ArrayList<>();
        for (int[] p : places()) {
            int land = 0;
            for (int row = p[0] - 1; row <= p[0] + 1; row++) {
                for (int column = p[1] - 1; column <= p[1] + 1; column++) {
                    land += isLand(row, column) ? 1 : 0;
                }
            }
            if (land >= least != isLand(p[0], p[1])) {
                turning.add(p);
            }
        }
        for (int[] p : turning) {
            make(p[0], p[1], !isLand(p[0], p[1]));
        }
        return turning.size();
    }

    int turn(int quarters) {
        if (quarters < 1 || quarters > 3) {
            return BAD_VALUE;
        }
        record();
        for (int quarter = 0; quarter < quarters; quarter++) {
            int rows = now.tiles.length;
            Integer[][] tiles = new Integer[now.tiles[0].length][rows];
            for (int row = 0; row < tiles.length; row++) {
                for (int column = 0; column < rows; column++) {
                    Integer tile = now.tiles[rows - 1 - column][row];
                    tiles[row][column] = tile == null || tile == UNPINNED ? tile : Integer.valueOf(turned(tile, 1));
                }
            }
            now = new Situation(tiles, now.outside);
        }
        return now.tiles.length;
    }

    int rows() {
        return now.tiles.length;
    }

    int columns() {
        return now.tiles[0].length;
    }

    int tile(int row, int column, int part) {
        if (!has(row, column)) {
            return NO_SUCH;
        }
        if (part < 0 || part > 5) {
            return BAD_VALUE;
        }
        boolean isPinned = now.tiles[row][column] != null && now.tiles[row][column] != UNPINNED;
        int[] parts = {isLand(row, column) ? 1 : 0, mask(row, column), right(row, column), shape(row, column),
            isPinned ? 1 : 0, faults(row, column)};
        return parts[part];
    }

    int pin(int row, int column, int shape) {
        if (!has(row, column) || shape < 0 || shape > 46) {
            return NO_SUCH;
        }
        if (!isLand(row, column)) {
            return NOT_POSSIBLE;
        }
        record();
        now.tiles[row][column] = shape;
        return faults(row, column);
    }

    int unpin(int row, int column) {
        if (!has(row, column)) {
            return NO_SUCH;
        }
        if (now.tiles[row][column] == null || now.tiles[row][column] == UNPINNED) {
            return NOT_POSSIBLE;
        }
        record();
        int shape = now.tiles[row][column];
        now.tiles[row][column] = UNPINNED;
        return shape;
    }

    int faults() {
        int sum = 0;
        for (int[] p : places()) {
            sum += faults(p[0], p[1]);
        }
        return sum;
    }

    int firstFault() {
        for (int[] p : places()) {
            if (faults(p[0], p[1]) > 0) {
                return 100 * p[0] + p[1];
            }
        }
        return NONE;
    }

    int maskOf(int shape) {
        return shape < 0 || shape > 46 ? NO_SUCH : REGULAR.get(shape);
    }

    int shapeOf(int mask) {
        return mask < 0 || mask > 255 ? BAD_VALUE : REGULAR.contains(mask) ? REGULAR.indexOf(mask) : NONE;
    }

    private static int directionOf(int down, int along) {
        for (int d = 0; d < 8; d++) {
            if (STEPS[d][0] == down && STEPS[d][1] == along) {
                return d;
            }
        }
        throw new IllegalStateException();
    }

    int turned(int shape, int quarters) {
        if (shape < 0 || shape > 46) {
            return NO_SUCH;
        }
        if (quarters < 0 || quarters > 3) {
            return BAD_VALUE;
        }
        int mask = REGULAR.get(shape);
        for (int quarter = 0; quarter < quarters; quarter++) {
            int next = 0;
            for (int d = 0; d < 8; d++) {
                next += bit(mask, d) ? 1 << directionOf(STEPS[d][1], -STEPS[d][0]) : 0;
            }
            mask = next;
        }
        return REGULAR.indexOf(mask);
    }

    int mirrored(int shape) {
        if (shape < 0 || shape > 46) {
            return NO_SUCH;
        }
        int mask = 0;
        for (int d = 0; d < 8; d++) {
            mask += bit(REGULAR.get(shape), d) ? 1 << directionOf(STEPS[d][0], -STEPS[d][1]) : 0;
        }
        return REGULAR.indexOf(mask);
    }

    int count(int shape) {
        if (shape < 0 || shape > 46) {
            return NO_SUCH;
        }
        return (int) places().stream().filter(p -> shape(p[0], p[1]) == shape).count();
    }

    int shapes() {
        return (int) places().stream().mapToInt(p -> shape(p[0], p[1])).filter(s -> s != NONE).distinct().count();
    }

    int land() {
        return (int) places().stream().filter(p -> isLand(p[0], p[1])).count();
    }

    int landShare() {
        return Float.floatToIntBits((float) land() / (float) places().size());
    }

    int coast() {
        int pairs = 0;
        for (int[] p : places()) {
            for (int d = 0; d < 8; d += 2) {
                pairs += isLand(p[0], p[1]) && !isLand(p[0] + STEPS[d][0], p[1] + STEPS[d][1]) ? 1 : 0;
            }
        }
        return pairs;
    }

    int islands() {
        int found = 0;
        for (int[] p : places()) {
            if (isLand(p[0], p[1]) && isFirstOf(distances(p[0], p[1], true), p[0], p[1])) {
                found++;
            }
        }
        return found;
    }

    int lakes() {
        int found = 0;
        for (int[] p : places()) {
            if (!isLand(p[0], p[1])) {
                int[][] steps = distances(p[0], p[1], false);
                boolean isAtEdge = false;
                for (int[] q : places()) {
                    boolean isEdge = q[0] == 0 || q[1] == 0 || q[0] == rows() - 1 || q[1] == columns() - 1;
                    isAtEdge |= isEdge && steps[q[0]][q[1]] >= 0;
                }
                found += !isAtEdge && isFirstOf(steps, p[0], p[1]) ? 1 : 0;
            }
        }
        return found;
    }

    int region(int row, int column, boolean byCorners) {
        return has(row, column) ? reached(distances(row, column, byCorners)) : NO_SUCH;
    }

    int largestIsland() {
        int most = 0;
        int answer = NONE;
        for (int[] p : places()) {
            if (isLand(p[0], p[1]) && reached(distances(p[0], p[1], true)) > most) {
                most = reached(distances(p[0], p[1], true));
                answer = 100 * p[0] + p[1];
            }
        }
        return answer;
    }

    int way(int row, int column, int otherRow, int otherColumn) {
        if (!has(row, column) || !has(otherRow, otherColumn)) {
            return NO_SUCH;
        }
        int steps = distances(row, column, false)[otherRow][otherColumn];
        return steps < 0 ? NONE : steps;
    }

    int coastIfChanged(int row, int column) {
        if (!has(row, column)) {
            return NO_SUCH;
        }
        int before = coast();
        Integer tile = now.tiles[row][column];
        now.tiles[row][column] = tile == null ? Integer.valueOf(UNPINNED) : null;
        int after = coast();
        now.tiles[row][column] = tile;
        return after - before + 100;
    }

    int needs(int row, int column, int shape) {
        if (!has(row, column) || shape < 0 || shape > 46) {
            return NO_SUCH;
        }
        int least = 9;
        for (int changed = 0; changed < 256; changed++) {
            boolean canBe = regularOf(mask(row, column) ^ changed) == REGULAR.get(shape);
            for (int d = 0; d < 8; d++) {
                canBe &= !bit(changed, d) || has(row + STEPS[d][0], column + STEPS[d][1]);
            }
            if (canBe) {
                least = Math.min(least, Integer.bitCount(changed));
            }
        }
        return least == 9 ? NONE : least;
    }

    int append(int code) {
        if (code < 33 || code > 126) {
            return BAD_VALUE;
        }
        if (buffer.length() == 80) {
            return LIMIT;
        }
        buffer += (char) code;
        return buffer.length();
    }

    int clearText() {
        int length = buffer.length();
        buffer = "";
        return length;
    }

    private static String unrolled(String row) {
        StringBuilder tiles = new StringBuilder();
        String digits = "";
        for (char c : row.toCharArray()) {
            if (Character.isDigit(c)) {
                digits += c;
            } else {
                tiles.append(String.valueOf(c).repeat(digits.isEmpty() ? 1 : Integer.parseInt(digits)));
                digits = "";
            }
        }
        return tiles.toString();
    }

    private static boolean isMap(String text) {
        String row = "(([2-9]|1[0-2])?[.#])+";
        if (!text.matches(row + "(/" + row + "){0,11}")) {
            return false;
        }
        String[] rows = text.split("/");
        int width = unrolled(rows[0]).length();
        for (String each : rows) {
            if (unrolled(each).length() != width) {
                return false;
            }
        }
        return width <= 12;
    }

    /** Tries all ways to end the number and the row that the text leaves open. */
    private static boolean beginsMap(String text) {
        for (String ending : new String[] {"", "#", "0#", "1#", "2#"}) {
            for (int more = 0; more <= 12; more++) {
                if (isMap(text + ending + "#".repeat(more))) {
                    return true;
                }
            }
        }
        return false;
    }

    int errorPosition() {
        if (isMap(buffer)) {
            return NONE;
        }
        for (int length = 1; length <= buffer.length(); length++) {
            if (!beginsMap(buffer.substring(0, length))) {
                return length - 1;
            }
        }
        return buffer.length();
    }

    int read() {
        if (!isMap(buffer)) {
            return BAD_TEXT;
        }
        record();
        String[] rows = buffer.split("/");
        Integer[][] tiles = new Integer[rows.length][unrolled(rows[0]).length()];
        for (int row = 0; row < rows.length; row++) {
            for (int column = 0; column < tiles[0].length; column++) {
                tiles[row][column] = unrolled(rows[row]).charAt(column) == '#' ? Integer.valueOf(UNPINNED) : null;
            }
        }
        now = new Situation(tiles, now.outside);
        buffer = "";
        return land();
    }

    int undo() {
        if (past.isEmpty()) {
            return NOT_POSSIBLE;
        }
        now = past.remove(past.size() - 1);
        return past.size();
    }

    int save() {
        kept = now.copy();
        return land();
    }

    int restore() {
        if (kept == null) {
            return NOT_POSSIBLE;
        }
        record();
        now = kept.copy();
        return land();
    }
}
