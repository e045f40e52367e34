import java.lang.reflect.Method;
import java.util.ArrayList;
import java.util.List;
import java.util.Map;
import java.util.Set;

/**
 * Written calls on one object: "name(arguments) = answer", and "7 x " ahead of a call that is made so often.
 * Besides the face's calls there are type(text), which appends each sign and answers as the last append, map(),
 * which draws the tiles, and the names of the constants.
 */
final class Script {
    private static final Map<String, Integer> NAMED = Map.of("NO_SUCH", -1, "BAD_VALUE", -2, "NOT_POSSIBLE", -3,
            "LIMIT", -4, "BAD_TEXT", -5, "NONE", -6);
    private static final Set<String> CHANGING = Set.of("begin", "setOutside", "set", "fill", "brush", "smooth", "turn",
            "pin", "unpin", "append", "type", "clearText", "read", "undo", "save", "restore");
    /** Longer scripts leave no room below the document's 512 calls to look at all that is there. */
    private static final int MOST_WATCHED = 100;

    private final String title;
    private final CoastTiles x = new CoastTiles();
    private final List<String> made = new ArrayList<>();
    private int calls = 0;

    Script(String title) {
        this.title = title;
    }

    void line(String line) throws ReflectiveOperationException {
        for (String part : line.split("; ")) {
            int equals = part.lastIndexOf(" = ");
            Checks.holds(title + " | " + part + " has its answer", equals > 0);
            if (equals > 0) {
                step(part.substring(0, equals).strip(), part.substring(equals + 3).strip());
            }
        }
    }

    private void step(String call, String want) throws ReflectiveOperationException {
        String got = perform(x, call);
        calls += callsOf(call, got);
        String due = NAMED.containsKey(want) ? String.valueOf(NAMED.get(want)) : number(want);
        if (!got.equals(due)) {
            System.out.println("after " + made);
        }
        Checks.holds(title + " | " + call + " answered " + got + ", due is " + want, got.equals(due));
        boolean isRefused = Set.of("-1", "-2", "-3", "-4", "-5").contains(got);
        if (calls <= MOST_WATCHED && (isRefused || !CHANGING.contains(nameOf(call)))) {
            dueNothingChanged(call);
        }
        made.add(call);
    }

    /** Two new objects go the same way, one of them by this call too: all that can be asked then is alike. */
    private void dueNothingChanged(String call) throws ReflectiveOperationException {
        CoastTiles without = new CoastTiles();
        CoastTiles with = new CoastTiles();
        for (String earlier : made) {
            perform(without, earlier);
            perform(with, earlier);
        }
        perform(with, call);
        Checks.holds(title + " | " + call + " changes nothing, after " + made, allOf(with).equals(allOf(without)));
    }

    private static List<Integer> allOf(CoastTiles x) {
        List<Integer> all = new ArrayList<>();
        int rows = x.rows();
        int columns = x.columns();
        for (int row = 0; row < rows; row++) {
            for (int column = 0; column < columns; column++) {
                all.add(x.tile(row, column, 3));
                all.add(x.tile(row, column, 4));
            }
        }
        addMeasures(x, all);
        for (int left = x.undo(); left >= 0; left = x.undo()) {
            all.add(left);
            addMeasures(x, all);
        }
        all.add(x.restore());
        addMeasures(x, all);
        all.add(x.errorPosition());
        all.add(x.append('#'));
        all.add(x.errorPosition());
        all.add(x.read());
        addMeasures(x, all);
        all.add(x.clearText());
        return all;
    }

    private static void addMeasures(CoastTiles x, List<Integer> all) {
        all.addAll(List.of(x.rows(), x.columns(), x.land(), x.coast(), x.islands(), x.lakes(), x.faults(),
                x.firstFault(), x.shapes(), x.tile(0, 0, 1), x.tile(0, 0, 3)));
    }

    private static int timesOf(String call) {
        return call.matches("\\d+ x .*") ? Integer.parseInt(call.substring(0, call.indexOf(' '))) : 1;
    }

    /** How many of the 512 calls it took. */
    private static int callsOf(String call, String answer) {
        switch (nameOf(call)) {
            case "type":
                return call.length() - "type()".length();
            case "map":
                return 2 + answer.replace("/", "").length();
            default:
                return timesOf(call);
        }
    }

    private static String nameOf(String call) {
        return call.replaceFirst("^\\d+ x ", "").replaceFirst("\\(.*", "");
    }

    private static String perform(CoastTiles x, String call) throws ReflectiveOperationException {
        String answer = "";
        for (int time = timesOf(call); time > 0; time--) {
            answer = performOnce(x, call.replaceFirst("^\\d+ x ", ""));
        }
        return answer;
    }

    private static String performOnce(CoastTiles x, String call) throws ReflectiveOperationException {
        if (!call.contains("(")) {
            return String.valueOf(CoastTiles.class.getField(call).getInt(null));
        }
        String inside = call.substring(call.indexOf('(') + 1, call.lastIndexOf(')'));
        switch (nameOf(call)) {
            case "type":
                return type(x, inside);
            case "map":
                return drawing(x);
            default:
                return String.valueOf(invoke(x, nameOf(call), inside.isEmpty() ? new String[0] : inside.split(", ")));
        }
    }

    private static String type(CoastTiles x, String text) {
        int answer = 0;
        for (int i = 0; i < text.length(); i++) {
            answer = x.append(text.charAt(i));
        }
        return String.valueOf(answer);
    }

    private static String drawing(CoastTiles x) {
        StringBuilder text = new StringBuilder();
        int rows = x.rows();
        int columns = x.columns();
        for (int row = 0; row < rows; row++) {
            text.append(row > 0 ? "/" : "");
            for (int column = 0; column < columns; column++) {
                text.append(x.tile(row, column, 0) == 1 ? '#' : '.');
            }
        }
        return text.toString();
    }

    private static Object invoke(CoastTiles x, String name, String[] written) throws ReflectiveOperationException {
        for (Method method : CoastTiles.class.getMethods()) {
            if (method.getName().equals(name) && method.getParameterCount() == written.length) {
                Object[] arguments = new Object[written.length];
                for (int i = 0; i < written.length; i++) {
                    boolean isTruth = method.getParameterTypes()[i] == boolean.class;
                    arguments[i] = isTruth ? (Object) truth(written[i]) : (Object) Integer.valueOf(number(written[i]));
                }
                return method.invoke(x, arguments);
            }
        }
        throw new NoSuchMethodException(name);
    }

    private static Boolean truth(String written) {
        if (!written.equals("true") && !written.equals("false")) {
            throw new IllegalArgumentException(written);
        }
        return Boolean.valueOf(written);
    }

    private static String number(String written) {
        switch (written) {
            case "MIN":
                return String.valueOf(Integer.MIN_VALUE);
            case "MAX":
                return String.valueOf(Integer.MAX_VALUE);
            default:
                return written.startsWith("0x") ? String.valueOf(Integer.decode(written)) : written;
        }
    }
}
