import java.util.Random;

/** Runs of 512 calls that are picked by fixed seeds: the program answers each as the model does. */
public final class ModelTest {
    private static final int RUNS = 300;
    private static final int CALLS = 512;
    private static final int[] ODD = {-1, -2, 12, 13, 47, 256, Integer.MIN_VALUE, Integer.MAX_VALUE};

    private final CoastTiles x = new CoastTiles();
    private final Model model = new Model();
    private final Random random;
    private final StringBuilder trail = new StringBuilder();

    private ModelTest(int seed) {
        random = new Random(seed);
    }

    public static void main(String[] args) {
        for (int run = 0; run < RUNS && Checks.allRight(); run++) {
            new ModelTest(run).run(run);
        }
        Checks.end();
    }

    private void run(int seed) {
        int calls = 0;
        int mood = seed % 4;
        while (calls < CALLS && Checks.allRight()) {
            calls += mood == 3 && random.nextInt(3) == 0 ? typeText(CALLS - calls) : call(random.nextInt(38));
        }
        if (!Checks.allRight()) {
            System.out.println("run " + seed + ": " + trail);
        }
    }

    private int odd() {
        return ODD[random.nextInt(ODD.length)];
    }

    /** Mostly from 0 to below the bound; now and then anything. */
    private int below(int bound) {
        return random.nextInt(60) == 0 ? odd() : random.nextInt(random.nextInt(20) == 0 ? bound + 1 : bound);
    }

    private int from(int first, int last) {
        return random.nextInt(40) == 0 ? odd() : first + random.nextInt(last - first + 1);
    }

    private boolean due(String call, int got, int want) {
        trail.append(call).append(" = ").append(got).append("; ");
        Checks.due(call, got, want);
        return got == want;
    }

    private int append(int code) {
        due("append(" + code + ")", x.append(code), model.append(code));
        return 1;
    }

    /** A text that is mostly a map, or nearly one. */
    private int typeText(int most) {
        due("clearText()", x.clearText(), model.clearText());
        String text = random.nextInt(3) == 0 ? anySigns() : nearlyMap();
        int calls = 1;
        for (int i = 0; i < text.length() && calls < most - 2; i++) {
            calls += append(text.charAt(i));
        }
        due("errorPosition()", x.errorPosition(), model.errorPosition());
        return calls + 1 + (random.nextBoolean() ? call(34) : 0);
    }

    private String anySigns() {
        String signs = "..##1123456789/0//x";
        StringBuilder text = new StringBuilder();
        for (int left = random.nextInt(30); left > 0; left--) {
            text.append(signs.charAt(random.nextInt(signs.length())));
        }
        return text.toString();
    }

    private String nearlyMap() {
        int width = 1 + random.nextInt(12);
        StringBuilder text = new StringBuilder();
        for (int row = random.nextInt(12); row >= 0; row--) {
            for (int left = width; left > 0;) {
                int tiles = Math.min(left, 1 + random.nextInt(random.nextBoolean() ? 2 : 12));
                text.append(tiles > 1 ? String.valueOf(tiles) : "").append(random.nextBoolean() ? '#' : '.');
                left -= tiles;
            }
            text.append(row > 0 ? "/" : "");
        }
        if (random.nextInt(3) == 0) {
            text.setCharAt(random.nextInt(text.length()), "#.123/".charAt(random.nextInt(6)));
        }
        if (random.nextInt(6) == 0) {
            text.deleteCharAt(random.nextInt(text.length()));
        }
        return text.toString();
    }

    private int call(int method) {
        if (method < 9) {
            return changeMap(method);
        }
        return method < 20 ? askShapes(method) : askMeasures(method);
    }

    private int changeMap(int method) {
        int row = below(model.rows());
        int column = below(model.columns());
        boolean isLand = random.nextInt(5) < 3;
        switch (method) {
            case 0:
                if (random.nextInt(3) == 0) {
                    int rows = from(1, 12);
                    int columns = from(1, 12);
                    due("begin(" + rows + ", " + columns + ")", x.begin(rows, columns), model.begin(rows, columns));
                }
                break;
            case 1:
                due("setOutside(" + isLand + ")", x.setOutside(isLand), model.setOutside(isLand));
                break;
            case 2:
            case 3:
            case 4:
                due("set(" + row + ", " + column + ", " + isLand + ")",
                        x.set(row, column, isLand), model.set(row, column, isLand));
                break;
            case 5:
                due("fill(" + row + ", " + column + ", " + isLand + ")",
                        x.fill(row, column, isLand), model.fill(row, column, isLand));
                break;
            case 6:
                int radius = random.nextInt(3) == 0 ? below(6) : below(3);
                due("brush(" + row + ", " + column + ", " + radius + ", " + isLand + ")",
                        x.brush(row, column, radius, isLand), model.brush(row, column, radius, isLand));
                break;
            case 7:
                int least = random.nextInt(3) == 0 ? from(0, 10) : from(3, 6);
                due("smooth(" + least + ")", x.smooth(least), model.smooth(least));
                break;
            default:
                int quarters = from(0, 4);
                due("turn(" + quarters + ")", x.turn(quarters), model.turn(quarters));
        }
        return 1;
    }

    private int askShapes(int method) {
        int row = below(model.rows());
        int column = below(model.columns());
        int shape = below(47);
        switch (method) {
            case 9:
                due("rows()", x.rows(), model.rows());
                due("columns()", x.columns(), model.columns());
                break;
            case 10:
            case 11:
                int part = below(6);
                due("tile(" + row + ", " + column + ", " + part + ")",
                        x.tile(row, column, part), model.tile(row, column, part));
                break;
            case 12:
            case 13:
                due("pin(" + row + ", " + column + ", " + shape + ")",
                        x.pin(row, column, shape), model.pin(row, column, shape));
                break;
            case 14:
                due("unpin(" + row + ", " + column + ")", x.unpin(row, column), model.unpin(row, column));
                break;
            case 15:
                due("faults()", x.faults(), model.faults());
                due("firstFault()", x.firstFault(), model.firstFault());
                return 2;
            case 16:
                int mask = below(256);
                due("shapeOf(" + mask + ")", x.shapeOf(mask), model.shapeOf(mask));
                due("maskOf(" + shape + ")", x.maskOf(shape), model.maskOf(shape));
                return 2;
            case 17:
                int quarters = below(4);
                due("turned(" + shape + ", " + quarters + ")", x.turned(shape, quarters), model.turned(shape, quarters));
                due("mirrored(" + shape + ")", x.mirrored(shape), model.mirrored(shape));
                return 2;
            case 18:
                due("count(" + shape + ")", x.count(shape), model.count(shape));
                break;
            default:
                due("shapes()", x.shapes(), model.shapes());
        }
        return 1;
    }

    private int askMeasures(int method) {
        int row = below(model.rows());
        int column = below(model.columns());
        switch (method) {
            case 20:
                due("land()", x.land(), model.land());
                break;
            case 21:
                due("landShare()", x.landShare(), model.landShare());
                break;
            case 22:
                due("coast()", x.coast(), model.coast());
                break;
            case 23:
                due("islands()", x.islands(), model.islands());
                break;
            case 24:
                due("lakes()", x.lakes(), model.lakes());
                break;
            case 25:
                boolean byCorners = random.nextBoolean();
                due("region(" + row + ", " + column + ", " + byCorners + ")",
                        x.region(row, column, byCorners), model.region(row, column, byCorners));
                break;
            case 26:
                due("largestIsland()", x.largestIsland(), model.largestIsland());
                break;
            case 27:
                int otherRow = below(model.rows());
                int otherColumn = below(model.columns());
                due("way(" + row + ", " + column + ", " + otherRow + ", " + otherColumn + ")",
                        x.way(row, column, otherRow, otherColumn), model.way(row, column, otherRow, otherColumn));
                break;
            case 28:
                due("coastIfChanged(" + row + ", " + column + ")",
                        x.coastIfChanged(row, column), model.coastIfChanged(row, column));
                break;
            case 29:
                int near = random.nextBoolean() ? Math.max(model.tile(row, column, 2), 0) : below(47);
                due("needs(" + row + ", " + column + ", " + near + ")",
                        x.needs(row, column, near), model.needs(row, column, near));
                break;
            default:
                return textOrUndo(method);
        }
        return 1;
    }

    private int textOrUndo(int method) {
        switch (method) {
            case 30:
            case 31:
                return append(from(33, 126));
            case 32:
                due("clearText()", x.clearText(), model.clearText());
                break;
            case 33:
                due("errorPosition()", x.errorPosition(), model.errorPosition());
                break;
            case 34:
                due("read()", x.read(), model.read());
                break;
            case 35:
                due("undo()", x.undo(), model.undo());
                break;
            case 36:
                due("save()", x.save(), model.save());
                break;
            default:
                due("restore()", x.restore(), model.restore());
        }
        return 1;
    }
}
