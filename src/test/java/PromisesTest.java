/** Each promise by itself: ordinary inputs, the edges that the document names, wrong inputs. */
public final class PromisesTest {
    private static final int NO_SUCH = -1;
    private static final int BAD_VALUE = -2;
    private static final int NOT_POSSIBLE = -3;
    private static final int LIMIT = -4;
    private static final int BAD_TEXT = -5;
    private static final int NONE = -6;
    private static final int[] FAR_OUT = {-1, -2, 12, 100, 1 << 28, Integer.MIN_VALUE, Integer.MAX_VALUE};
    private static final int[] NO_SHAPES = {-1, 47, -6, 255, Integer.MIN_VALUE, Integer.MAX_VALUE};

    public static void main(String[] args) {
        constants();
        newObject();
        begin();
        setOutside();
        set();
        fill();
        brush();
        smooth();
        turn();
        rowsAndColumns();
        tile();
        pin();
        unpin();
        faults();
        firstFault();
        maskOf();
        shapeOf();
        turned();
        mirrored();
        count();
        shapes();
        land();
        landShare();
        coast();
        islands();
        lakes();
        region();
        largestIsland();
        way();
        coastIfChanged();
        needs();
        append();
        clearText();
        errorPosition();
        read();
        undo();
        save();
        restore();
        Checks.end();
    }

    private static void due(String what, long got, long want) {
        Checks.due(what, got, want);
    }

    private static void type(CoastTiles x, String text) {
        for (int i = 0; i < text.length(); i++) {
            x.append(text.charAt(i));
        }
    }

    /** A new object with the map of a text. */
    private static CoastTiles drawn(String text) {
        CoastTiles x = new CoastTiles();
        type(x, text);
        Checks.holds("read of " + text, x.read() >= 0);
        return x;
    }

    private static String drawing(CoastTiles x) {
        StringBuilder text = new StringBuilder();
        for (int row = 0; row < x.rows(); row++) {
            text.append(row > 0 ? "/" : "");
            for (int column = 0; column < x.columns(); column++) {
                text.append(x.tile(row, column, 0) == 1 ? '#' : '.');
            }
        }
        return text.toString();
    }

    private static void dueMap(String what, CoastTiles x, String want) {
        String got = drawing(x);
        if (!got.equals(want)) {
            System.out.println(what + " left " + got + ", due is " + want);
        }
        due(what + ": the map is right", got.equals(want) ? 1 : 0, 1);
    }

    /** The call before recorded nothing: a new object has nothing to undo. */
    private static void dueNothingRecorded(String what, CoastTiles x) {
        due(what + ": undo", x.undo(), NOT_POSSIBLE);
    }

    private static void constants() {
        due("NO_SUCH", CoastTiles.NO_SUCH, NO_SUCH);
        due("BAD_VALUE", CoastTiles.BAD_VALUE, BAD_VALUE);
        due("NOT_POSSIBLE", CoastTiles.NOT_POSSIBLE, NOT_POSSIBLE);
        due("LIMIT", CoastTiles.LIMIT, LIMIT);
        due("BAD_TEXT", CoastTiles.BAD_TEXT, BAD_TEXT);
        due("NONE", CoastTiles.NONE, NONE);
    }

    private static void newObject() {
        CoastTiles x = new CoastTiles();
        due("1 rows", x.rows(), 8);
        due("1 columns", x.columns(), 8);
        due("1 land", x.land(), 0);
        due("1 outside is water", x.tile(0, 0, 1), 0);
        due("1 buffer", x.clearText(), 0);
        due("1 nothing recorded", x.undo(), NOT_POSSIBLE);
        due("1 nothing saved", x.restore(), NOT_POSSIBLE);
        CoastTiles other = new CoastTiles();
        x.set(0, 0, true);
        due("1 another object is its own", other.land(), 0);
    }

    private static void begin() {
        for (int wrong : new int[] {0, 13, -1, 1 << 30, Integer.MIN_VALUE, Integer.MAX_VALUE}) {
            CoastTiles x = new CoastTiles();
            due("2 begin(" + wrong + ", 1)", x.begin(wrong, 1), BAD_VALUE);
            due("2 begin(1, " + wrong + ")", x.begin(1, wrong), BAD_VALUE);
            due("2 rows stay", x.rows(), 8);
            dueNothingRecorded("2 wrong begin", x);
        }
        CoastTiles x = new CoastTiles();
        x.setOutside(true);
        x.brush(3, 3, 5, true);
        x.pin(3, 3, 7);
        due("2 begin(12, 12)", x.begin(12, 12), 144);
        due("2 all water", x.land(), 0);
        due("2 water has no pin", x.tile(3, 3, 4), 0);
        due("2 nothing to unpin", x.unpin(3, 3), NOT_POSSIBLE);
        due("2 outside as before", x.tile(0, 0, 1), 1 + 2 + 32 + 64 + 128);
        x.set(3, 3, true);
        due("2 no pin", x.tile(3, 3, 4), 0);
        due("2 begin(1, 1)", x.begin(1, 1), 1);
        due("2 begin(3, 5)", x.begin(3, 5), 15);
        due("2 rows", x.rows(), 3);
        due("2 columns", x.columns(), 5);
        x.undo();
        x.undo();
        x.undo();
        x.undo();
        due("2 undone", x.tile(3, 3, 3), 7);
    }

    private static void setOutside() {
        CoastTiles x = drawn("3#/3#/3#");
        due("3 of the border", x.setOutside(true), 8);
        due("3 no difference", x.setOutside(true), 0);
        due("3 tile", x.tile(0, 0, 3), 46);
        due("3 back", x.setOutside(false), 8);
        due("3 undo", x.undo(), 3);
        due("3 undo", x.undo(), 2);
        due("3 undo", x.undo(), 1);
        due("3 outside undone", x.tile(0, 0, 1), 4 + 8 + 16);
        x.pin(0, 0, 0);
        due("3 a pinned tile keeps its shape", x.setOutside(true), 7);
        due("3 water has no shape", drawn("2./.#").setOutside(true), 1);
        due("3 water only", new CoastTiles().setOutside(true), 0);
    }

    private static void set() {
        for (int far : FAR_OUT) {
            CoastTiles x = new CoastTiles();
            due("4 set(" + far + ", 0)", x.set(far, 0, true), NO_SUCH);
            due("4 set(0, " + far + ")", x.set(0, far, true), NO_SUCH);
            due("4 no land", x.land(), 0);
            dueNothingRecorded("4 wrong set", x);
        }
        CoastTiles edge = new CoastTiles();
        due("4 set(8, 7)", edge.set(8, 7, true), NO_SUCH);
        due("4 set(7, 8)", edge.set(7, 8, true), NO_SUCH);
        due("4 set(7, 7)", edge.set(7, 7, true), 0);
        CoastTiles x = drawn("3#/#.#/3#");
        due("4 middle of a ring", x.set(1, 1, true), 8);
        due("4 again", x.set(1, 1, true), 0);
        due("4 away", x.set(1, 1, false), 8);
        x.pin(0, 0, 3);
        x.pin(0, 1, 4);
        due("4 pinned ones keep their shapes", x.set(1, 1, true), 6);
        x.set(0, 1, true);
        due("4 a pin stays on land", x.tile(0, 1, 3), 4);
        x.set(0, 1, false);
        due("4 water has no pin", x.unpin(0, 1), NOT_POSSIBLE);
        x.set(0, 1, true);
        due("4 a pin goes with water", x.tile(0, 1, 4), 0);
        CoastTiles y = drawn("#./.#");
        due("4 corners alone change no shape", y.set(0, 0, false), 0);
        CoastTiles z = new CoastTiles();
        z.set(0, 0, true);
        z.set(0, 0, true);
        due("4 recorded without a difference", z.undo(), 1);
        due("4 undone", z.land(), 1);
        due("4 undone", z.undo() + z.land(), 0);
    }

    private static void fill() {
        for (int far : FAR_OUT) {
            CoastTiles x = new CoastTiles();
            due("5 fill(" + far + ", 0)", x.fill(far, 0, true), NO_SUCH);
            due("5 fill(0, " + far + ")", x.fill(0, far, true), NO_SUCH);
            dueNothingRecorded("5 wrong fill", x);
        }
        CoastTiles x = drawn("#.#/.#./#.#");
        due("5 by sides only", x.fill(1, 1, false), 1);
        dueMap("5 fill", x, "#.#/.../#.#");
        due("5 water", x.fill(0, 1, true), 5);
        due("5 of this kind already", x.fill(0, 1, true), 0);
        due("5 recorded", x.undo(), 3);
        due("5 recorded", x.undo(), 2);
        dueMap("5 undone", x, "#.#/.../#.#");
        CoastTiles y = drawn("2#/2#");
        y.pin(0, 1, 9);
        due("5 pins stay on land", y.fill(0, 0, true) + y.tile(0, 1, 3), 9);
        due("5 fill with water", y.fill(0, 0, false), 4);
        y.fill(0, 0, true);
        due("5 pins go with water", y.tile(0, 1, 4), 0);
        CoastTiles snake = drawn("5#/4.#/5#/#/5#".replace("/#/", "/#4./"));
        due("5 round the bends", snake.fill(0, 0, false), 17);
    }

    private static void brush() {
        for (int far : FAR_OUT) {
            CoastTiles x = new CoastTiles();
            due("6 brush(" + far + ", 0)", x.brush(far, 0, 1, true), NO_SUCH);
            due("6 brush(0, " + far + ")", x.brush(0, far, 9, true), NO_SUCH);
            dueNothingRecorded("6 wrong brush", x);
        }
        for (int wrong : new int[] {-1, 6, -5, Integer.MIN_VALUE, Integer.MAX_VALUE}) {
            CoastTiles x = new CoastTiles();
            due("6 radius " + wrong, x.brush(0, 0, wrong, true), BAD_VALUE);
            dueNothingRecorded("6 wrong radius", x);
        }
        int[] discs = {1, 5, 13, 29, 49, 81};
        for (int radius = 0; radius <= 5; radius++) {
            CoastTiles x = new CoastTiles();
            x.begin(12, 12);
            due("6 disc of radius " + radius, x.brush(5, 6, radius, true), discs[radius]);
            due("6 again", x.brush(5, 6, radius, true), 0);
            due("6 away", x.brush(5, 6, radius, false), discs[radius]);
            due("6 recorded", x.undo(), 3);
        }
        CoastTiles x = new CoastTiles();
        x.begin(3, 4);
        due("6 at the corner", x.brush(0, 0, 2, true), 6);
        dueMap("6 brush", x, "###./##../#...");
        x.pin(0, 0, 1);
        x.brush(0, 0, 1, true);
        due("6 pins stay on land", x.tile(0, 0, 4), 1);
        x.brush(0, 0, 1, false);
        x.brush(0, 0, 1, true);
        due("6 pins go with water", x.tile(0, 0, 4), 0);
    }

    private static void smooth() {
        for (int wrong : new int[] {0, 10, -1, Integer.MIN_VALUE, Integer.MAX_VALUE}) {
            CoastTiles x = new CoastTiles();
            due("7 smooth(" + wrong + ")", x.smooth(wrong), BAD_VALUE);
            dueNothingRecorded("7 wrong smooth", x);
        }
        CoastTiles x = drawn("5./5./2.#2./5./5.");
        due("7 grows", x.smooth(1), 8);
        dueMap("7 smooth(1)", x, "...../.###./.###./.###./.....");
        due("7 shrinks", x.smooth(9), 8);
        due("7 to nothing", x.smooth(2), 1);
        due("7 no difference", x.smooth(2), 0);
        due("7 recorded", x.undo(), 4);
        CoastTiles all = drawn("3#/3#/3#");
        due("7 all at once", all.smooth(5), 4);
        dueMap("7 smooth(5)", all, ".#./###/.#.");
        CoastTiles coast = drawn("3./3./3.");
        coast.setOutside(true);
        due("7 outside is land", coast.smooth(5), 4);
        dueMap("7 corners first", coast, "#.#/.../#.#");
        CoastTiles pinned = drawn("3#/3#/3#");
        pinned.pin(1, 1, 2);
        pinned.pin(0, 0, 2);
        pinned.smooth(9);
        due("7 a pin stays on land", pinned.tile(1, 1, 3), 2);
        pinned.set(0, 0, true);
        due("7 a pin goes with water", pinned.tile(0, 0, 4), 0);
    }

    private static void turn() {
        for (int wrong : new int[] {0, 4, -1, 5, Integer.MIN_VALUE, Integer.MAX_VALUE}) {
            CoastTiles x = new CoastTiles();
            due("8 turn(" + wrong + ")", x.turn(wrong), BAD_VALUE);
            dueNothingRecorded("8 wrong turn", x);
        }
        String[] due = {"", "###/.#./...", "..#/.##/..#", ".../.#./###"};
        for (int quarters = 1; quarters <= 3; quarters++) {
            CoastTiles x = drawn("#2./2#./#2.");
            due("8 turn(" + quarters + ")", x.turn(quarters), 3);
            dueMap("8 turn(" + quarters + ")", x, due[quarters]);
            due("8 recorded once", x.undo(), 1);
            dueMap("8 undone", x, "#../##./#..");
        }
        CoastTiles wide = drawn("#3./4.");
        wide.setOutside(true);
        wide.pin(0, 0, 3);
        due("8 rows of a wide map", wide.turn(1), 4);
        due("8 columns of a wide map", wide.columns(), 2);
        dueMap("8 wide map", wide, ".#/../../..");
        due("8 pinned shape is turned", wide.tile(0, 1, 3), wide.turned(3, 1));
        due("8 and not the same", wide.turned(3, 1) == 3 ? 1 : 0, 0);
        due("8 outside stays", wide.tile(2, 0, 1) & 224, 224);
        due("8 half a turn", wide.turn(2), 4);
        dueMap("8 wide map", wide, "../../../#.");
        due("8 pinned shape", wide.tile(3, 0, 3), wide.turned(3, 3));
        due("8 three quarters", wide.turn(3), 2);
        due("8 one pin alone", wide.unpin(1, 3), wide.turned(3, 2));
        due("8 one land tile alone", wide.land(), 1);
    }

    private static void rowsAndColumns() {
        CoastTiles x = new CoastTiles();
        for (int rows = 1; rows <= 12; rows++) {
            for (int columns = 1; columns <= 12; columns++) {
                due("2 begin", x.begin(rows, columns), rows * columns);
                due("9 rows", x.rows(), rows);
                due("10 columns", x.columns(), columns);
            }
        }
        x.undo();
        due("9 undone rows", x.rows(), 12);
        due("10 undone columns", x.columns(), 11);
    }

    private static void tile() {
        CoastTiles x = drawn("3#/#.#/3#");
        for (int far : FAR_OUT) {
            due("11 tile(" + far + ", 0, 0)", x.tile(far, 0, 0), NO_SUCH);
            due("11 tile(0, " + far + ", 9)", x.tile(0, far, 9), NO_SUCH);
        }
        due("11 tile(3, 0, 0)", x.tile(3, 0, 0), NO_SUCH);
        due("11 tile(0, 3, 0)", x.tile(0, 3, 0), NO_SUCH);
        for (int part : new int[] {-1, 6, 7, Integer.MIN_VALUE, Integer.MAX_VALUE}) {
            due("11 part " + part, x.tile(0, 0, part), BAD_VALUE);
        }
        due("11 land", x.tile(0, 0, 0), 1);
        due("11 water", x.tile(1, 1, 0), 0);
        due("11 surroundings of water", x.tile(1, 1, 1), 255);
        due("11 right shape of water", x.tile(1, 1, 2), 46);
        due("11 shape of water", x.tile(1, 1, 3), NONE);
        due("11 pin of water", x.tile(1, 1, 4), 0);
        due("11 faults of water", x.tile(1, 1, 5), 0);
        due("11 surroundings", x.tile(0, 0, 1), 4 + 16);
        due("11 right shape", x.maskOf(x.tile(0, 0, 2)), 4 + 16);
        x.set(1, 1, true);
        due("11 corner between sides", x.tile(0, 0, 1), 4 + 8 + 16);
        due("11 right shape", x.maskOf(x.tile(0, 0, 2)), 4 + 8 + 16);
        x.set(0, 1, false);
        due("11 corner not between sides", x.tile(0, 0, 1), 8 + 16);
        due("11 right shape without it", x.maskOf(x.tile(0, 0, 2)), 16);
        due("11 shape", x.tile(0, 0, 3), x.shapeOf(16));
        due("11 no pin", x.tile(0, 0, 4), 0);
        due("11 no faults", x.tile(0, 0, 5), 0);
        x.pin(0, 0, x.shapeOf(1 + 4));
        due("11 pinned shape", x.tile(0, 0, 3), x.shapeOf(5));
        due("11 right shape of a pinned one", x.maskOf(x.tile(0, 0, 2)), 16);
        due("11 pin", x.tile(0, 0, 4), 1);
        due("11 faults", x.tile(0, 0, 5), 3);
        for (int direction = 0; direction < 8; direction++) {
            int[] down = {-1, -1, 0, 1, 1, 1, 0, -1};
            int[] right = {0, 1, 1, 1, 0, -1, -1, -1};
            CoastTiles one = new CoastTiles();
            one.set(4 + down[direction], 4 + right[direction], true);
            due("11 direction " + direction, one.tile(4, 4, 1), 1 << direction);
        }
        CoastTiles outside = new CoastTiles();
        outside.setOutside(true);
        due("11 top left", outside.tile(0, 0, 1), 1 + 2 + 32 + 64 + 128);
        due("11 bottom right", outside.tile(7, 7, 1), 2 + 4 + 8 + 16 + 32);
        due("11 within", outside.tile(1, 6, 1), 0);
    }

    private static void pin() {
        CoastTiles x = drawn("#./2.");
        for (int far : FAR_OUT) {
            due("12 pin(" + far + ", 0)", x.pin(far, 0, 0), NO_SUCH);
            due("12 pin(0, " + far + ")", x.pin(0, far, 0), NO_SUCH);
        }
        for (int wrong : NO_SHAPES) {
            due("12 shape " + wrong, x.pin(0, 0, wrong), NO_SUCH);
            due("12 shape " + wrong + " on water", x.pin(0, 1, wrong), NO_SUCH);
        }
        due("12 on water", x.pin(0, 1, 0), NOT_POSSIBLE);
        due("12 nothing recorded but the read", x.undo(), 0);
        x = drawn("#./2.");
        due("12 pin all", x.pin(0, 0, 46), 8);
        due("12 in place of it", x.pin(0, 0, 1), 1);
        due("12 shape", x.tile(0, 0, 3), 1);
        due("12 right shape pinned", x.pin(0, 0, 0), 0);
        due("12 is pinned", x.tile(0, 0, 4), 1);
        due("12 recorded", x.undo(), 3);
        due("12 undone", x.tile(0, 0, 3), 1);
        due("12 recorded", x.undo() + x.undo(), 3);
        due("12 undone", x.tile(0, 0, 4), 0);
    }

    private static void unpin() {
        CoastTiles x = drawn("2#");
        for (int far : FAR_OUT) {
            due("13 unpin(" + far + ", 0)", x.unpin(far, 0), NO_SUCH);
            due("13 unpin(0, " + far + ")", x.unpin(0, far), NO_SUCH);
        }
        due("13 not pinned", x.unpin(0, 0), NOT_POSSIBLE);
        x.pin(0, 0, 0);
        x.pin(0, 1, 46);
        due("13 shape 0", x.unpin(0, 0), 0);
        due("13 right shape then", x.tile(0, 0, 3), x.shapeOf(4));
        due("13 again", x.unpin(0, 0), NOT_POSSIBLE);
        due("13 shape 46", x.unpin(0, 1), 46);
        due("13 recorded", x.undo(), 4);
        due("13 undone", x.tile(0, 1, 3), 46);
        due("13 water", new CoastTiles().unpin(0, 0), NOT_POSSIBLE);
    }

    private static void faults() {
        CoastTiles x = drawn("3#/3.");
        due("14 none", x.faults(), 0);
        x.pin(0, 0, 0);
        x.pin(0, 2, 46);
        due("14 sum", x.faults(), 1 + 7);
        x.set(0, 1, false);
        due("14 fits now", x.faults(), 8);
        x.set(0, 2, false);
        due("14 water has none", x.faults(), 0);
    }

    private static void firstFault() {
        CoastTiles x = new CoastTiles();
        x.begin(12, 12);
        x.fill(0, 0, true);
        due("15 none", x.firstFault(), NONE);
        x.pin(11, 11, 0);
        due("15 last", x.firstFault(), 1111);
        x.pin(11, 0, 0);
        due("15 by columns", x.firstFault(), 1100);
        x.pin(2, 9, 0);
        due("15 by rows", x.firstFault(), 209);
        x.pin(2, 8, 46);
        due("15 a pin that fits is no fault", x.firstFault(), 209);
        x.pin(1, 11, x.shapeOf(1 + 16));
        due("15 several bits", x.tile(1, 11, 5) * 10000 + x.firstFault(), 30111);
        x.pin(1, 4, x.shapeOf(253));
        due("15 a single bit", x.tile(1, 4, 5) * 10000 + x.firstFault(), 10104);
        x.pin(0, 0, 0);
        due("15 first", x.firstFault(), 0);
    }

    private static boolean isRegular(int mask) {
        for (int corner = 1; corner < 8; corner += 2) {
            boolean isBetween = (mask >> corner - 1 & 1) == 1 && (mask >> (corner + 1) % 8 & 1) == 1;
            if ((mask >> corner & 1) == 1 && !isBetween) {
                return false;
            }
        }
        return true;
    }

    private static void maskOf() {
        CoastTiles x = new CoastTiles();
        int shape = 0;
        for (int mask = 0; mask < 256; mask++) {
            if (isRegular(mask)) {
                due("16 maskOf(" + shape + ")", x.maskOf(shape), mask);
                shape++;
            }
        }
        due("16 shapes", shape, 47);
        for (int wrong : NO_SHAPES) {
            due("16 maskOf(" + wrong + ")", x.maskOf(wrong), NO_SUCH);
        }
    }

    private static void shapeOf() {
        CoastTiles x = new CoastTiles();
        int shape = 0;
        for (int mask = 0; mask < 256; mask++) {
            due("17 shapeOf(" + mask + ")", x.shapeOf(mask), isRegular(mask) ? shape : NONE);
            shape += isRegular(mask) ? 1 : 0;
        }
        for (int wrong : new int[] {-1, 256, Integer.MIN_VALUE, Integer.MAX_VALUE}) {
            due("17 shapeOf(" + wrong + ")", x.shapeOf(wrong), BAD_VALUE);
        }
    }

    private static void turned() {
        CoastTiles x = new CoastTiles();
        for (int shape = 0; shape < 47; shape++) {
            for (int quarters = 0; quarters < 4; quarters++) {
                int mask = 0;
                for (int direction = 0; direction < 8; direction++) {
                    mask |= (x.maskOf(shape) >> direction & 1) << (direction + 2 * quarters) % 8;
                }
                due("18 turned(" + shape + ", " + quarters + ")", x.turned(shape, quarters), x.shapeOf(mask));
            }
            due("18 quarters 4", x.turned(shape, 4), BAD_VALUE);
            due("18 quarters -1", x.turned(shape, -1), BAD_VALUE);
        }
        due("18 up to right", x.maskOf(x.turned(1, 1)), 4);
        for (int wrong : NO_SHAPES) {
            due("18 turned(" + wrong + ", 1)", x.turned(wrong, 1), NO_SUCH);
            due("18 turned(" + wrong + ", 9)", x.turned(wrong, 9), NO_SUCH);
        }
        due("18 far quarters", x.turned(3, Integer.MIN_VALUE), BAD_VALUE);
        due("18 far quarters", x.turned(3, Integer.MAX_VALUE), BAD_VALUE);
    }

    private static void mirrored() {
        CoastTiles x = new CoastTiles();
        int[] other = {0, 7, 6, 5, 4, 3, 2, 1};
        for (int shape = 0; shape < 47; shape++) {
            int mask = 0;
            for (int direction = 0; direction < 8; direction++) {
                mask |= (x.maskOf(shape) >> direction & 1) << other[direction];
            }
            due("19 mirrored(" + shape + ")", x.mirrored(shape), x.shapeOf(mask));
        }
        for (int wrong : NO_SHAPES) {
            due("19 mirrored(" + wrong + ")", x.mirrored(wrong), NO_SUCH);
        }
    }

    private static void count() {
        CoastTiles x = drawn("3#/3.");
        due("20 ends", x.count(x.shapeOf(4)), 1);
        due("20 ends", x.count(x.shapeOf(64)), 1);
        due("20 middle", x.count(x.shapeOf(68)), 1);
        due("20 water has none", x.count(x.tile(1, 1, 2)), 0);
        x.pin(0, 0, x.shapeOf(68));
        due("20 pinned", x.count(x.shapeOf(68)), 2);
        due("20 pinned no more", x.count(x.shapeOf(4)), 0);
        x.begin(12, 12);
        x.setOutside(true);
        x.fill(0, 0, true);
        due("20 all", x.count(46), 144);
        due("20 no other", x.count(0), 0);
        for (int wrong : NO_SHAPES) {
            due("20 count(" + wrong + ")", x.count(wrong), NO_SUCH);
        }
    }

    private static void shapes() {
        CoastTiles x = drawn("3#/3.");
        due("21 three", x.shapes(), 3);
        x.pin(0, 0, 46);
        due("21 pinned", x.shapes(), 3);
        x.pin(0, 1, 46);
        due("21 the same", x.shapes(), 2);
        x.begin(12, 12);
        due("21 none", x.shapes(), 0);
        x.setOutside(true);
        due("21 places outside have none", x.shapes(), 0);
        due("20 places outside have none", x.count(46), 0);
        x.setOutside(false);
        x.fill(0, 0, true);
        due("21 of a full map", x.shapes(), 9);
        for (int shape = 0; shape < 47; shape++) {
            x.pin(shape / 12, shape % 12, shape);
        }
        due("21 all", x.shapes(), 47);
    }

    private static void land() {
        CoastTiles x = drawn("#.#/3.");
        due("22 two", x.land(), 2);
        x.setOutside(true);
        due("22 outside is no tile", x.land(), 2);
        x.begin(12, 12);
        due("22 none", x.land(), 0);
        x.fill(0, 0, true);
        due("22 all", x.land(), 144);
    }

    private static void landShare() {
        CoastTiles x = new CoastTiles();
        for (int rows = 1; rows <= 12; rows++) {
            for (int columns = 1; columns <= 12; columns++) {
                x = new CoastTiles();
                int tiles = x.begin(rows, columns);
                for (int land = 0; land <= tiles; land++) {
                    float share = (float) land / (float) tiles;
                    due("23 share " + land + " of " + tiles, x.landShare(), Float.floatToIntBits(share));
                    if (land < tiles) {
                        x.set(land / columns, land % columns, true);
                    }
                }
            }
        }
        due("23 all", x.landShare(), 0x3f800000);
    }

    private static void coast() {
        CoastTiles x = drawn("3./.#./3.");
        due("24 one tile", x.coast(), 4);
        x.set(1, 2, true);
        due("24 two tiles", x.coast(), 6);
        x.setOutside(true);
        due("24 land outside", x.coast(), 5);
        due("24 corners do not count", drawn("#./.#").coast(), 8);
        due("24 none", new CoastTiles().coast(), 0);
        CoastTiles lone = drawn("#");
        due("24 lone", lone.coast(), 4);
        lone.setOutside(true);
        due("24 lone in land", lone.coast(), 0);
    }

    private static void islands() {
        due("25 none", new CoastTiles().islands(), 0);
        due("25 by corners", drawn("#.#/.#./#.#").islands(), 1);
        due("25 three", drawn("#.#/3./.#.").islands(), 3);
        CoastTiles x = drawn("#.#");
        x.setOutside(true);
        due("25 not by the outside", x.islands(), 2);
    }

    private static void lakes() {
        due("26 none", new CoastTiles().lakes(), 0);
        due("26 one", drawn("3#/#.#/3#").lakes(), 1);
        due("26 by sides", drawn("4#/#.2#/2#.#/4#").lakes(), 2);
        due("26 corners leave it a lake", drawn(".2#/#.#/3#").lakes(), 1);
        due("26 first row", drawn("#.#/#.#/3#").lakes(), 0);
        due("26 last row", drawn("3#/#.#/#.#").lakes(), 0);
        due("26 first column", drawn("3#/2.#/3#").lakes(), 0);
        due("26 last column", drawn("3#/#2./3#").lakes(), 0);
        due("26 large", drawn("5#/#3.#/#.#.#/#3.#/5#").lakes(), 1);
        CoastTiles x = drawn("3./.#./3.");
        x.setOutside(true);
        due("26 the edge is no lake", x.lakes(), 0);
    }

    private static void region() {
        CoastTiles x = drawn("#.#/.#./#.#");
        for (int far : FAR_OUT) {
            due("27 region(" + far + ", 0)", x.region(far, 0, true), NO_SUCH);
            due("27 region(0, " + far + ")", x.region(0, far, false), NO_SUCH);
        }
        due("27 land by sides", x.region(1, 1, false), 1);
        due("27 land by corners", x.region(1, 1, true), 5);
        due("27 water by sides", x.region(0, 1, false), 1);
        due("27 water by corners", x.region(0, 1, true), 4);
        x.begin(12, 12);
        due("27 all", x.region(11, 11, false), 144);
        due("27 all", x.region(11, 11, true), 144);
    }

    private static void largestIsland() {
        due("28 none", new CoastTiles().largestIsland(), NONE);
        due("28 first of two alike", drawn("2#.2#").largestIsland(), 0);
        due("28 the larger one", drawn("#.2#").largestIsland(), 2);
        due("28 not the later one", drawn("2#.#").largestIsland(), 0);
        due("28 first tile row by row", drawn("3./2.#/.#.").largestIsland(), 102);
        due("28 by corners", drawn("2#.#/4./3.#/2.#.").largestIsland(), 0);
        due("28 by corners", drawn("2#2./4./3.#/2.#./.#2.").largestIsland(), 203);
        due("28 alike, row by row", drawn("3.#/#3./#2.#").largestIsland(), 100);
        CoastTiles x = new CoastTiles();
        x.begin(12, 12);
        x.set(11, 11, true);
        due("28 last tile", x.largestIsland(), 1111);
    }

    private static void way() {
        CoastTiles x = drawn("4#/3.#/4#/#3./4#");
        for (int far : FAR_OUT) {
            due("29 way(" + far + ", ..)", x.way(far, 0, 0, 0), NO_SUCH);
            due("29 way(.., " + far + ", ..)", x.way(0, far, 0, 0), NO_SUCH);
            due("29 way(.., " + far + ", ..)", x.way(0, 0, far, 0), NO_SUCH);
            due("29 way(.., " + far + ")", x.way(0, 0, 0, far), NO_SUCH);
        }
        due("29 to itself", x.way(0, 0, 0, 0), 0);
        due("29 round the bends", x.way(0, 0, 4, 3), 13);
        due("29 back", x.way(4, 3, 0, 0), 13);
        due("29 water", x.way(1, 0, 1, 2), 2);
        due("29 two waters", x.way(1, 0, 3, 2), NONE);
        due("29 land to water", x.way(0, 0, 1, 0), NONE);
        due("29 corners", drawn("#./.#").way(0, 0, 1, 1), NONE);
        x.begin(12, 12);
        due("29 straight", x.way(0, 11, 11, 0), 22);
    }

    private static void coastIfChanged() {
        CoastTiles x = drawn("3./.#./3.");
        for (int far : FAR_OUT) {
            due("30 (" + far + ", 0)", x.coastIfChanged(far, 0), NO_SUCH);
            due("30 (0, " + far + ")", x.coastIfChanged(0, far), NO_SUCH);
        }
        due("30 less", x.coastIfChanged(1, 1), 96);
        due("30 beside", x.coastIfChanged(0, 1), 102);
        due("30 at the corner", x.coastIfChanged(0, 0), 104);
        x.setOutside(true);
        due("30 beside land outside", x.coastIfChanged(0, 1), 101);
        due("30 corner by land outside", x.coastIfChanged(0, 0), 102);
        due("30 hole", drawn("3#/3#/3#").coastIfChanged(1, 1), 104);
        CoastTiles lone = drawn("#");
        lone.setOutside(true);
        due("30 land outside has no coast", lone.coastIfChanged(0, 0), 100);
        lone.pin(0, 0, 5);
        lone.coastIfChanged(0, 0);
        due("30 changes nothing", lone.tile(0, 0, 3), 5);
        due("30 records nothing", lone.undo(), 2);
    }

    private static void needs() {
        CoastTiles x = drawn("3./3./3.");
        for (int far : FAR_OUT) {
            due("31 (" + far + ", 0)", x.needs(far, 0, 0), NO_SUCH);
            due("31 (0, " + far + ")", x.needs(0, far, 0), NO_SUCH);
        }
        for (int wrong : NO_SHAPES) {
            due("31 shape " + wrong, x.needs(1, 1, wrong), NO_SUCH);
        }
        due("31 right already", x.needs(1, 1, 0), 0);
        due("31 all", x.needs(1, 1, 46), 8);
        due("31 sides", x.needs(1, 1, x.shapeOf(85)), 4);
        due("31 outside is water", x.needs(0, 1, 1), NONE);
        due("31 right of the left edge", x.needs(1, 0, x.shapeOf(4)), 1);
        due("31 left of the left edge", x.needs(1, 0, x.shapeOf(64)), NONE);
        due("31 left of the right edge", x.needs(1, 2, x.shapeOf(64)), 1);
        due("31 below the last row", x.needs(2, 1, x.shapeOf(16)), NONE);
        due("31 above the last row", x.needs(2, 1, x.shapeOf(1)), 1);
        due("31 outside corner is water", x.needs(0, 1, x.shapeOf(4 + 64)), 2);
        CoastTiles full = drawn("3#/3#/3#");
        due("31 corners that do not count", full.needs(1, 1, 0), 4);
        due("31 corners that count", full.needs(1, 1, full.shapeOf(85)), 4);
        due("31 one corner", full.needs(1, 1, full.shapeOf(253)), 1);
        full.setOutside(true);
        due("31 outside is land", full.needs(0, 0, 0), NONE);
        due("31 outside corners stay", full.needs(0, 1, full.shapeOf(85)), NONE);
        due("31 outside fits", full.needs(0, 1, full.shapeOf(85 + 2 + 128)), 2);
        due("31 a pin makes no difference", full.pin(1, 1, 0) + full.needs(1, 1, 46), 8);
        CoastTiles water = drawn("#.#");
        due("31 of water", water.needs(0, 1, water.shapeOf(68)), 0);
        due("31 of water", water.needs(0, 1, 0), 2);
    }

    private static void append() {
        CoastTiles x = new CoastTiles();
        for (int wrong : new int[] {32, 127, 0, -1, 65536 + 46, Integer.MIN_VALUE, Integer.MAX_VALUE}) {
            due("32 append(" + wrong + ")", x.append(wrong), BAD_VALUE);
        }
        due("32 nothing in it", x.clearText(), 0);
        for (int length = 1; length <= 80; length++) {
            due("32 append", x.append(length % 2 == 0 ? 33 : 126), length);
        }
        due("32 full", x.append(46), LIMIT);
        due("32 full, wrong", x.append(32), BAD_VALUE);
        due("32 stays", x.clearText(), 80);
        due("32 room again", x.append(46), 1);
    }

    private static void clearText() {
        CoastTiles x = new CoastTiles();
        due("33 empty", x.clearText(), 0);
        type(x, "2#/");
        due("33 three", x.clearText(), 3);
        due("33 again", x.clearText(), 0);
        dueNothingRecorded("33 clearText", x);
        type(x, "..");
        due("33 begins anew", x.read() == 0 ? x.columns() : -9, 2);
    }

    private static void dueError(String text, int want) {
        CoastTiles x = new CoastTiles();
        type(x, text);
        due("34 errorPosition of " + text, x.errorPosition(), want);
        due("34 again", x.errorPosition(), want);
        due("34 the buffer stays", x.clearText(), text.length());
        dueNothingRecorded("34 errorPosition", x);
    }

    private static void errorPosition() {
        dueError("", 0);
        dueError("#", NONE);
        dueError(".", NONE);
        dueError("2", 1);
        dueError("1", 1);
        dueError("1#", 1);
        dueError("0#", 0);
        dueError("/", 0);
        dueError("x", 0);
        dueError("#x", 1);
        dueError("#$", 1);
        dueError("#-", 1);
        dueError("#:", 1);
        dueError("2/", 1);
        dueError("02#", 0);
        dueError("20#", 1);
        dueError("22#", 1);
        dueError("10", 2);
        dueError("10#", NONE);
        dueError("12#", NONE);
        dueError("13#", 1);
        dueError("19#", 1);
        dueError("100#", 2);
        dueError("9#3.", NONE);
        dueError("9#4.", 2);
        dueError("2#10.", NONE);
        dueError("2#11.", 3);
        dueError("3#1", 2);
        dueError("3#9.", NONE);
        dueError("12##", 3);
        dueError("12#2", 3);
        dueError("12#/", 4);
        dueError("12#/1", 5);
        dueError("12#/10", 6);
        dueError("11#/12.", 5);
        dueError("11#/11.", NONE);
        dueError("11#/1", 5);
        dueError("9#/1", 3);
        dueError("10#/11.", 5);
        dueError("10#/.1", 5);
        dueError("3#/4.", 3);
        dueError("3#/2./", 5);
        dueError("3#/2.#/", 7);
        dueError("3#/2.##", 6);
        dueError("3#/2.2", 5);
        dueError("#//", 2);
        dueError("#/#/#/#/#/#/#/#/#/#/#/#", NONE);
        dueError("#/#/#/#/#/#/#/#/#/#/#/#/", 23);
        dueError("#/#/#/#/#/#/#/#/#/#/#/", 22);
        dueError("#/#\\", 3);
        String row = "#.#.#.#.#.#.";
        String six = String.join("/", row, row, row, row, row, row);
        dueError(six, NONE);
        dueError(six + "/#", 79);
        dueError(six + "/##", 80);
    }

    private static void read() {
        CoastTiles x = new CoastTiles();
        due("35 empty buffer", x.read(), BAD_TEXT);
        type(x, "2#/3.");
        due("35 not a map", x.read(), BAD_TEXT);
        due("35 map stays", x.rows(), 8);
        dueNothingRecorded("35 wrong read", x);
        due("35 buffer stays", x.clearText(), 5);
        type(x, "2#/2");
        due("35 not yet a map", x.read(), BAD_TEXT);
        type(x, ".");
        x.setOutside(true);
        x.set(0, 0, true);
        x.pin(0, 0, 4);
        due("35 read", x.read(), 2);
        dueMap("35 read", x, "##/..");
        due("35 no pins", x.tile(0, 0, 4), 0);
        due("35 outside as before", x.tile(0, 0, 1), 1 + 2 + 32 + 64 + 128 + 4);
        due("35 buffer is empty", x.clearText(), 0);
        due("35 recorded", x.undo(), 3);
        due("35 undone", x.tile(0, 0, 3), 4);
        due("35 buffer does not come back", x.clearText(), 0);
        dueMap("35 all runs", drawn("12#/#10.#/5#2.5#"), "############/#..........#/#####..#####");
        due("35 twelve rows", drawn("./#/./#/./#/./#/./#/./#").rows(), 12);
        due("35 land of 144", drawn("12#/12#/12#/12#/12#/12#/12#/12#/12#/12#/12#/12#").land(), 144);
        dueMap("35 water over land", drawn("2./2."), "../..");
    }

    private static void undo() {
        CoastTiles x = new CoastTiles();
        due("36 none", x.undo(), NOT_POSSIBLE);
        for (int column = 0; column < 7; column++) {
            x.set(0, column, true);
        }
        for (int left = 4; left >= 0; left--) {
            due("36 undo", x.undo(), left);
            due("36 land", x.land(), 2 + left);
        }
        due("36 the oldest are discarded", x.undo(), NOT_POSSIBLE);
        due("36 land stays", x.land(), 2);
        type(x, "#");
        x.save();
        x.set(5, 5, true);
        x.undo();
        due("36 the buffer is no state", x.clearText(), 1);
        x.set(5, 5, true);
        x.set(5, 6, true);
        x.undo();
        x.undo();
        due("36 the saved state is no state", x.restore(), 2);
        due("36 recorded again", x.undo(), 0);
        int[] recorded = {x.setOutside(true), x.begin(3, 3), x.smooth(1), x.turn(1), x.fill(0, 0, true)};
        due("36 five calls", recorded.length, 5);
        due("36 five states", x.undo(), 4);
        x.undo();
        x.undo();
        x.undo();
        x.undo();
        due("36 rows back", x.rows(), 8);
        due("36 outside back", x.tile(7, 7, 1), 0);
    }

    private static void save() {
        CoastTiles x = drawn("2#.");
        due("37 land", x.save(), 2);
        due("37 is not recorded", x.undo(), 0);
        due("37 nor undone", x.restore(), 2);
        x.set(0, 2, true);
        due("37 overwrites", x.save(), 3);
        x.begin(1, 1);
        due("37 the later one", x.restore(), 3);
        due("37 empty", new CoastTiles().save(), 0);
    }

    private static void restore() {
        CoastTiles x = new CoastTiles();
        due("38 none", x.restore(), NOT_POSSIBLE);
        dueNothingRecorded("38 restore of none", x);
        x.begin(2, 3);
        x.setOutside(true);
        x.set(1, 2, true);
        x.pin(1, 2, 11);
        x.save();
        type(x, "##");
        x.begin(5, 5);
        x.setOutside(false);
        due("38 restore", x.restore(), 1);
        due("38 rows", x.rows(), 2);
        due("38 columns", x.columns(), 3);
        due("38 outside", x.tile(0, 0, 1), 1 + 2 + 32 + 64 + 128);
        due("38 pin", x.tile(1, 2, 3), 11);
        due("38 the buffer stays", x.clearText(), 2);
        x.set(1, 2, false);
        due("38 it remains saved", x.restore(), 1);
        due("38 and untouched", x.tile(1, 2, 3), 11);
        due("38 recorded", x.undo(), 4);
        due("38 undone", x.land(), 0);
    }
}
