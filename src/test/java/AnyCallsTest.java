import java.util.NoSuchElementException;
import java.util.Random;
import java.util.concurrent.Callable;

/**
 * Calls in any order, with any arguments, on many objects: each throws what the document says, and only there; and
 * what the calls answer fits together. The choices come of fixed seeds, so that every run of the test is the same.
 */
final class AnyCallsTest {
    private static final int OBJECTS = 1500;
    private static final int CALLS = 512;
    /** More than one step of the test ever needs. */
    private static final int CALLS_OF_A_STEP = 300;
    private static final int ROWS_LOOKED_AT = 5;
    private static final String[] BITS = {
        "WITH", "RECURSIVE", "AS", "SELECT", "FROM", "WHERE", "AND", "NOT", "EXISTS", "IS", "NULL", "UNION", "ALL",
        "SEARCH", "DEPTH", "BREADTH", "FIRST", "BY", "SET", "CYCLE", "COUNT", "SUM", "MIN", "MAX", "ORDER", ",", "(",
        ")", ".", "+", "-", "=", "<", ">", "<>", "*", "1", "01", "00001", "p", "x", "t0", "abcdefg", "SELECTED", "!",
    };

    private final Random random;
    private final FixpointEngine engine = new FixpointEngine();
    private final int[] columns = new int[5];
    private final int[] rows = new int[5];
    private int tables = 0;
    private String text = "";
    private int latestFault = 0;
    private String query = null;
    private int parts = 0;
    private boolean answered = false;
    private int answerRows = 0;
    private int calls = 0;

    private AnyCallsTest(int seed) {
        random = new Random(seed);
    }

    public static void main(String[] args) {
        int[] met = new int[5];
        for (int seed = 0; seed < OBJECTS; seed++) {
            AnyCallsTest one = new AnyCallsTest(seed);
            // Most queries need tables with rows; the other objects begin with none.
            for (int i = 0; i < 10 && seed % 5 > 0; i++) {
                one.anyTable();
                one.anyRow();
            }
            while (one.calls <= CALLS - CALLS_OF_A_STEP) {
                one.anyCall(met);
            }
            Kit.due("an object is used for no more calls than the document says", one.calls <= CALLS, true);
        }
        String[] kinds = {"queries", "faults", "answers", "out of range", "too many"};
        for (int i = 0; i < kinds.length; i++) {
            Kit.due("enough " + kinds[i] + " were met, not just " + met[i], met[i] >= 300, true);
        }
        Kit.end();
    }

    /** Every call goes through here, to be counted. */
    private FixpointEngine call() {
        calls++;
        return engine;
    }

    /** What a call answers, or the name of what it throws; the class itself must have thrown it. */
    private String told(Callable<?> call) {
        try {
            return String.valueOf(call.call());
        } catch (Exception e) {
            String where = e.getStackTrace().length == 0 ? "" : e.getStackTrace()[0].getClassName();
            return e.getClass().getName() + (where.startsWith("FixpointEngine") ? "" : " of " + where);
        }
    }

    private void due(String what, Callable<?> call, Object due) {
        String answer = due instanceof Class ? ((Class<?>) due).getName() : String.valueOf(due);
        Kit.due(what + " of " + query, told(call), answer);
    }

    private int number(int most) {
        int choice = random.nextInt(20);
        if (choice == 0) {
            return random.nextBoolean() ? Integer.MIN_VALUE : Integer.MAX_VALUE;
        }
        return choice == 1 ? -1 : random.nextInt(most + 1);
    }

    private int value() {
        if (random.nextInt(5) == 0) {
            return random.nextBoolean() ? Integer.MIN_VALUE : Integer.MAX_VALUE;
        }
        return random.nextInt(6) - 1;
    }

    private void anyCall(int[] met) {
        int choice = random.nextInt(40);
        if (choice < 3) {
            anyTable();
        } else if (choice < 16) {
            anyRow();
        } else if (choice == 16) {
            anyClear();
        } else if (choice == 17) {
            anyText();
        } else if (choice < 24) {
            anyPrepare(met);
        } else if (choice < 27) {
            anyPart();
        } else if (choice < 36) {
            anyRun(met);
        } else {
            anyLook();
        }
    }

    private void anyTable() {
        int wide = number(4);
        boolean refused = wide < 1 || wide > 3;
        Object due = refused ? IllegalArgumentException.class : tables == 5 ? IllegalStateException.class : tables;
        due("table " + wide, () -> call().table(wide), due);
        if (!refused && tables < 5) {
            columns[tables] = wide;
            tables++;
        }
    }

    private void anyRow() {
        int table = number(tables);
        int a = value();
        int b = value();
        int c = value();
        int nulls = random.nextInt(3) == 0 ? random.nextInt() : 0;
        boolean there = table >= 0 && table < tables;
        if (there && rows[table] < 16) {
            rows[table]++;
            due("row", () -> call().row(table, a, b, c, nulls), rows[table]);
        } else {
            due("row", () -> call().row(table, a, b, c, nulls),
                    there ? IllegalStateException.class : IllegalArgumentException.class);
        }
    }

    private void anyClear() {
        int table = number(tables);
        boolean there = table >= 0 && table < tables;
        due("clear " + table, () -> call().clear(table), there ? rows[table] : IllegalArgumentException.class);
        if (there) {
            rows[table] = 0;
        }
    }

    /** Any numbers at all, or such as are good characters. */
    private void anyText() {
        boolean wild = random.nextBoolean();
        int[] five = new int[5];
        StringBuilder more = new StringBuilder();
        boolean good = true;
        for (int i = 0; i < 20; i++) {
            int code = wild && random.nextInt(8) == 0 ? random.nextInt(256) : 32 + random.nextInt(95);
            code = random.nextInt(10) == 0 ? 0 : code;
            five[i / 4] = (five[i / 4] << 8) | code;
            good = good && (code == 0 || (code >= 32 && code <= 126));
            more.append(code == 0 ? "" : String.valueOf((char) code));
        }
        comes(five, more.toString(), good);
    }

    private void comes(int[] five, String more, boolean good) {
        boolean taken = good && text.length() + more.length() <= 400;
        due("text", () -> call().text(five[0], five[1], five[2], five[3], five[4]), taken);
        text = taken ? text + more : text;
    }

    private void feed(String whole) {
        for (int i = 0; i < whole.length(); i += 20) {
            int[] five = new int[5];
            for (int k = 0; k < 5; k++) {
                five[k] = Kit.four(whole, i + 4 * k);
            }
            comes(five, whole.substring(i, Math.min(i + 20, whole.length())), true);
        }
    }

    private void anyPrepare(int[] met) {
        if (text.isEmpty() || random.nextInt(4) == 0) {
            String made = new AnyQuery(random, tables, columns).text();
            feed(random.nextInt(5) == 0 ? spoilt(made) : made);
        }
        String whole = text;
        text = "";
        answered = false;
        query = null;
        String answer = told(() -> call().prepare());
        latestFault = call().fault();
        if (answer.equals(IllegalArgumentException.class.getName())) {
            met[1]++;
            int number = latestFault % 10;
            int place = latestFault / 10;
            Kit.due("a fault's number: " + latestFault + " of " + whole, number >= 1 && number <= 8, true);
            boolean atToken = place >= 0 && place < whole.length() && whole.charAt(place) != ' ';
            Kit.due("a fault's place: " + latestFault + " of " + whole,
                    atToken || (number == 1 && place == whole.length()), true);
            return;
        }
        met[0]++;
        query = whole;
        Kit.due("no fault of " + whole, latestFault, 0);
        Kit.due("parts of " + whole, answer.length() == 1 && answer.charAt(0) >= '0' && answer.charAt(0) <= '4', true);
        parts = answer.charAt(0) - '0';
    }

    /** One token of the text goes, is another, or stands twice. */
    private String spoilt(String made) {
        String[] tokens = made.split(" ");
        int at = random.nextInt(tokens.length);
        String bit = BITS[random.nextInt(BITS.length)];
        int way = random.nextInt(3);
        tokens[at] = way == 0 ? "" : way == 1 ? bit : tokens[at] + " " + bit;
        String all = String.join(" ", tokens);
        return all.length() <= 400 ? all : all.substring(0, 400);
    }

    private void anyPart() {
        int k = number(4);
        int what = number(3);
        if (query == null || k < 0 || k >= parts) {
            due("part " + k, () -> call().part(k, what), NoSuchElementException.class);
        } else if (what < 0 || what > 2) {
            due("part " + k + ", what " + what, () -> call().part(k, what), IllegalArgumentException.class);
        } else {
            int least = what == 2 ? 1 : 0;
            int most = what == 0 ? parts - 1 : what == 1 ? 1 : 4;
            String answer = told(() -> call().part(k, what));
            boolean fits = answer.length() == 1 && answer.charAt(0) >= '0' + least && answer.charAt(0) <= '0' + most;
            Kit.due("part " + k + ", what " + what + " is " + answer + " of " + query, fits, true);
        }
    }

    private void anyRun(int[] met) {
        boolean wide = random.nextInt(3) > 0;
        int rounds = wide ? 30 : number(31);
        int most = wide ? 48 : number(49);
        if (rounds < 1 || rounds > 30 || most < 1 || most > 48) {
            due("run", () -> call().run(rounds, most), IllegalArgumentException.class);
            return;
        }
        if (query == null) {
            due("run", () -> call().run(rounds, most), IllegalStateException.class);
            return;
        }
        String answer = told(() -> call().run(rounds, most));
        answered = false;
        if (answer.equals(ArithmeticException.class.getName())) {
            met[3]++;
        } else if (answer.equals(UnsupportedOperationException.class.getName())) {
            met[4]++;
        } else {
            met[2]++;
            answered = true;
            Kit.due("run answers a number, not " + answer, answer.matches("[0-9]+"), true);
            answerRows = Integer.parseInt(answer);
            lookThrough(rounds, most);
        }
    }

    /** What parts, rounds and rows of an answer must be together; and that they are just enough. */
    private void lookThrough(int rounds, int most) {
        int all = answerRows;
        int came = 0;
        int longest = 1;
        int components = 0;
        for (int k = 0; k < parts; k++) {
            all += call().size(k);
            components = Math.max(components, call().part(k, 0) + 1);
        }
        for (int j = 0; j < components; j++) {
            longest = Math.max(longest, call().rounds(j, 0));
            came += cameIn(j, call().rounds(j, 0));
        }
        Kit.due("rows that came and those of the answer, of " + query, came + answerRows, all);
        Kit.due("no more rows than allowed: " + query, all <= most, true);
        Kit.due("no more rounds than allowed: " + query, longest <= rounds, true);
        if (random.nextInt(4) == 0) {
            runAgain(longest, Math.max(1, all));
        }
    }

    private int cameIn(int component, int rounds) {
        int came = 0;
        int latest = 0;
        for (int r = 1; r <= rounds; r++) {
            latest = call().rounds(component, r);
            came += latest;
        }
        Kit.due("the last round of component " + component + " of " + query, rounds == 1 || latest == 0, true);
        due("no later round", () -> call().rounds(component, rounds + 1), IndexOutOfBoundsException.class);
        return came;
    }

    private void runAgain(int longest, int all) {
        String before = cells();
        if (longest > 1) {
            due("a round fewer", () -> call().run(longest - 1, 48), UnsupportedOperationException.class);
            due("no answer then", () -> call().size(0), IndexOutOfBoundsException.class);
        }
        if (all > 1) {
            due("a row fewer", () -> call().run(30, all - 1), UnsupportedOperationException.class);
            due("no answer then", () -> call().cell(0, 0), IndexOutOfBoundsException.class);
        }
        due("just as many", () -> call().run(longest, all), answerRows);
        Kit.due("the same answer of " + query, cells(), before);
    }

    private String cells() {
        StringBuilder cells = new StringBuilder();
        long last = Long.MIN_VALUE;
        for (int r = 0; r < Math.min(answerRows, ROWS_LOOKED_AT); r++) {
            for (int i = 0; i < 4 && Kit.thrown(cellOf(r, i)).equals("nothing"); i++) {
                cells.append(call().cell(r, i)).append(' ');
            }
            long first = call().cell(r, 0) == FixpointEngine.NULL ? Long.MIN_VALUE : call().cell(r, 0);
            Kit.due("sorted by the first item: " + query, query.contains("ORDER") || first >= last, true);
            last = first;
        }
        return cells.toString();
    }

    private Callable<Long> cellOf(int r, int i) {
        return () -> call().cell(r, i);
    }

    private void anyLook() {
        int k = number(6);
        int i = number(4);
        Class<?> none = IndexOutOfBoundsException.class;
        due("fault", () -> call().fault(), latestFault);
        if (!answered || k < 0 || k >= answerRows || i < 0 || i > 3) {
            due("no cell " + k + " " + i, () -> call().cell(k, i), none);
        }
        if (!answered || k < 0 || k >= parts) {
            due("no size " + k, () -> call().size(k), none);
        }
        if (!answered || k < 0 || k >= parts || i < 0) {
            due("no rounds " + k + " " + i, () -> call().rounds(k, i), none);
        }
    }
}
