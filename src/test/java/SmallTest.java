/** All maps of up to three rows and columns, and all short texts: the program answers as the model does. */
public final class SmallTest {
    private static final int MOST_LINES = 3;
    private static final int MOST_SIGNS = 4;
    private static final String SIGNS = ".#/0129x";
    /** The model tries 256 surroundings for each shape: of larger maps it looks at the middle alone. */
    private static final int MOST_TILES_FOR_NEEDS = 6;

    private final String text;
    private final boolean outside;
    private CoastTiles x;
    private Model model;
    private int rows;
    private int columns;

    private SmallTest(String text, boolean outside) {
        this.text = text;
        this.outside = outside;
    }

    public static void main(String[] args) {
        for (int rows = 1; rows <= MOST_LINES; rows++) {
            for (int columns = 1; columns <= MOST_LINES; columns++) {
                for (int tiles = 0; tiles < 1 << rows * columns && Checks.allRight(); tiles++) {
                    String text = drawing(rows, columns, tiles);
                    new SmallTest(text, false).map();
                    new SmallTest(text, true).map();
                }
            }
        }
        texts("");
        Checks.end();
    }

    private static String drawing(int rows, int columns, int tiles) {
        StringBuilder text = new StringBuilder();
        for (int place = 0; place < rows * columns; place++) {
            text.append(place > 0 && place % columns == 0 ? "/" : "").append((tiles >> place & 1) == 1 ? '#' : '.');
        }
        return text.toString();
    }

    private void due(String call, int got, int want) {
        Checks.due(text + (outside ? " in land: " : " in water: ") + call, got, want);
    }

    /** The map on new objects, as each object is used for at most 512 calls. */
    private void begin() {
        x = new CoastTiles();
        model = new Model();
        due("setOutside(" + outside + ")", x.setOutside(outside), model.setOutside(outside));
        for (int i = 0; i < text.length(); i++) {
            due("append", x.append(text.charAt(i)), model.append(text.charAt(i)));
        }
        due("errorPosition()", x.errorPosition(), model.errorPosition());
        due("read()", x.read(), model.read());
        rows = model.rows();
        columns = model.columns();
    }

    private void map() {
        begin();
        measures("");
        for (int row = 0; row < rows; row++) {
            for (int column = 0; column < columns; column++) {
                begin();
                tile(row, column);
                changes(row, column, true);
                changes(row, column, false);
            }
        }
        begin();
        for (int least = 1; least <= 9; least++) {
            due("smooth(" + least + ")", x.smooth(least), model.smooth(least));
            dueTiles("smooth(" + least + ")");
            due("undo()", x.undo(), model.undo());
        }
        due("setOutside(" + !outside + ")", x.setOutside(!outside), model.setOutside(!outside));
        measures("setOutside(" + !outside + "); ");
    }

    private void measures(String after) {
        due(after + "rows()", x.rows(), model.rows());
        due(after + "columns()", x.columns(), model.columns());
        due(after + "land()", x.land(), model.land());
        due(after + "landShare()", x.landShare(), model.landShare());
        due(after + "coast()", x.coast(), model.coast());
        due(after + "islands()", x.islands(), model.islands());
        due(after + "lakes()", x.lakes(), model.lakes());
        due(after + "largestIsland()", x.largestIsland(), model.largestIsland());
        due(after + "shapes()", x.shapes(), model.shapes());
        due(after + "faults()", x.faults(), model.faults());
        due(after + "firstFault()", x.firstFault(), model.firstFault());
        for (int shape = 0; shape < 47; shape++) {
            due(after + "count(" + shape + ")", x.count(shape), model.count(shape));
        }
        dueTiles(after);
    }

    private void dueTiles(String after) {
        for (int row = 0; row < rows; row++) {
            for (int column = 0; column < columns; column++) {
                String tile = after + "tile(" + row + ", " + column + ", ";
                due(tile + "0)", x.tile(row, column, 0), model.tile(row, column, 0));
                due(tile + "3)", x.tile(row, column, 3), model.tile(row, column, 3));
            }
        }
    }

    private void tile(int row, int column) {
        String tile = "(" + row + ", " + column;
        for (int part = 0; part < 6; part++) {
            due("tile" + tile + ", " + part + ")", x.tile(row, column, part), model.tile(row, column, part));
        }
        due("region" + tile + ", false)", x.region(row, column, false), model.region(row, column, false));
        due("region" + tile + ", true)", x.region(row, column, true), model.region(row, column, true));
        due("coastIfChanged" + tile + ")", x.coastIfChanged(row, column), model.coastIfChanged(row, column));
        for (int other = 0; other < rows * columns; other++) {
            int otherRow = other / columns;
            int otherColumn = other % columns;
            due("way" + tile + ", " + otherRow + ", " + otherColumn + ")",
                    x.way(row, column, otherRow, otherColumn), model.way(row, column, otherRow, otherColumn));
        }
        if (rows * columns <= MOST_TILES_FOR_NEEDS || row == 1 && column == 1) {
            needs(row, column);
        }
    }

    private void needs(int row, int column) {
        for (int shape = 0; shape < 47; shape++) {
            due("needs(" + row + ", " + column + ", " + shape + ")",
                    x.needs(row, column, shape), model.needs(row, column, shape));
        }
    }

    private void changes(int row, int column, boolean isLand) {
        String tile = "(" + row + ", " + column + ", ";
        due("set" + tile + isLand + ")", x.set(row, column, isLand), model.set(row, column, isLand));
        dueTiles("set" + tile + isLand + "); ");
        due("undo()", x.undo(), model.undo());
        due("fill" + tile + isLand + ")", x.fill(row, column, isLand), model.fill(row, column, isLand));
        dueTiles("fill" + tile + isLand + "); ");
        due("undo()", x.undo(), model.undo());
        due("brush" + tile + "1, " + isLand + ")", x.brush(row, column, 1, isLand), model.brush(row, column, 1, isLand));
        dueTiles("brush" + tile + "1, " + isLand + "); ");
        due("undo()", x.undo(), model.undo());
    }

    private static void texts(String text) {
        CoastTiles x = new CoastTiles();
        Model model = new Model();
        for (int i = 0; i < text.length(); i++) {
            Checks.due("append", x.append(text.charAt(i)), model.append(text.charAt(i)));
        }
        Checks.due(text + ": errorPosition()", x.errorPosition(), model.errorPosition());
        Checks.due(text + ": read()", x.read(), model.read());
        Checks.due(text + ": clearText()", x.clearText(), model.clearText());
        for (int sign = 0; sign < SIGNS.length() && text.length() < MOST_SIGNS && Checks.allRight(); sign++) {
            texts(text + SIGNS.charAt(sign));
        }
    }
}
