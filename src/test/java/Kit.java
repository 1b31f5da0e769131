import java.util.concurrent.Callable;

/** What the tests share: feeding texts, telling answers as one line, counting what is not as due. */
final class Kit {
    private static int wrong = 0;

    private Kit() {
    }

    static void due(String what, Object got, Object due) {
        if (!String.valueOf(got).equals(String.valueOf(due))) {
            wrong++;
            System.out.println(what + ": got " + got + ", due " + due);
        }
    }

    /** The name of what a call throws, or "nothing". */
    static String thrown(Callable<?> call) {
        try {
            call.call();
            return "nothing";
        } catch (Exception e) {
            return e.getClass().getName();
        }
    }

    static void dueThrown(String what, Callable<?> call, Class<?> due) {
        due(what, thrown(call), due.getName());
    }

    static int four(String text, int from) {
        int four = 0;
        for (int i = from; i < from + 4; i++) {
            four = (four << 8) | (i < text.length() ? text.charAt(i) : 0);
        }
        return four;
    }

    static boolean feed(FixpointEngine engine, String text) {
        boolean good = true;
        for (int i = 0; i < text.length(); i += 20) {
            good &= engine.text(four(text, i), four(text, i + 4), four(text, i + 8), four(text, i + 12),
                    four(text, i + 16));
        }
        return good;
    }

    /** How many parts the text has as a query, or "fault n". */
    static String prepare(FixpointEngine engine, String text) {
        due("the text comes: " + text, feed(engine, text), true);
        try {
            return String.valueOf(engine.prepare());
        } catch (IllegalArgumentException e) {
            return "fault " + engine.fault();
        }
    }

    /** The fault of a text is due at the mark ^, which is no part of it. */
    static void dueFault(FixpointEngine engine, int number, String marked) {
        int place = marked.indexOf('^');
        String text = marked.replace("^", "");
        due(marked, prepare(engine, text), "fault " + (number + 10 * place));
    }

    /** As dueFault, for a text that may have the mark itself among its characters. */
    static void dueFaultAt(FixpointEngine engine, int number, int place, String text) {
        due(text, prepare(engine, text), "fault " + (number + 10 * place));
    }

    static void dueFine(FixpointEngine engine, int parts, String text) {
        due(text, prepare(engine, text), parts);
        due("no fault of " + text, engine.fault(), 0);
    }

    /** The answer's rows with their cells, "1 2; 3 NULL", or what run throws. */
    static String run(FixpointEngine engine, int rounds, int rows) {
        int count;
        try {
            count = engine.run(rounds, rows);
        } catch (RuntimeException e) {
            return e.getClass().getSimpleName();
        }
        StringBuilder told = new StringBuilder();
        for (int r = 0; r < count; r++) {
            told.append(r == 0 ? "" : "; ");
            for (int i = 0; isThere(engine, r, i); i++) {
                long cell = engine.cell(r, i);
                told.append(i == 0 ? "" : " ").append(cell == FixpointEngine.NULL ? "NULL" : String.valueOf(cell));
            }
        }
        due("no row behind the last", isThere(engine, count, 0), false);
        return told.toString();
    }

    private static boolean isThere(FixpointEngine engine, int r, int i) {
        try {
            engine.cell(r, i);
            return true;
        } catch (IndexOutOfBoundsException e) {
            return false;
        }
    }

    static void dueAnswer(FixpointEngine engine, String text, String answer) {
        String prepared = prepare(engine, text);
        if (prepared.startsWith("fault")) {
            due(text, prepared, answer);
        } else {
            due(text, run(engine, 30, 48), answer);
        }
    }

    static void dueRun(FixpointEngine engine, String text, int rounds, int rows, String answer) {
        String prepared = prepare(engine, text);
        due(text, prepared.startsWith("fault") ? prepared : run(engine, rounds, rows), answer);
    }

    /** The rounds of a component: how many, and what each brought, "3: 2 1 0". */
    static String rounds(FixpointEngine engine, int component) {
        int count = engine.rounds(component, 0);
        StringBuilder told = new StringBuilder().append(count).append(":");
        for (int r = 1; r <= count; r++) {
            told.append(" ").append(engine.rounds(component, r));
        }
        return told.toString();
    }

    /** A new object with these tables, each of at least one row. */
    static FixpointEngine engine(Integer[][]... tables) {
        FixpointEngine engine = new FixpointEngine();
        for (Integer[][] rows : tables) {
            table(engine, rows);
        }
        return engine;
    }

    /** A new object with tables of these numbers of columns, without rows. */
    static FixpointEngine columns(int... columns) {
        FixpointEngine engine = new FixpointEngine();
        for (int count : columns) {
            engine.table(count);
        }
        return engine;
    }

    static void dueNoAnswer(String what, FixpointEngine engine) {
        dueThrown(what + ": no cell", () -> engine.cell(0, 0), IndexOutOfBoundsException.class);
        dueThrown(what + ": no size", () -> engine.size(0), IndexOutOfBoundsException.class);
        dueThrown(what + ": no rounds", () -> engine.rounds(0, 0), IndexOutOfBoundsException.class);
    }

    static void dueNoQuery(String what, FixpointEngine engine) {
        dueThrown(what + ": no part", () -> engine.part(0, 0), java.util.NoSuchElementException.class);
        dueThrown(what + ": no run", () -> engine.run(1, 1), IllegalStateException.class);
    }

    /** A new table with these rows of one width; null is NULL. */
    static void table(FixpointEngine engine, Integer[][] rows) {
        int number = engine.table(rows[0].length);
        for (Integer[] row : rows) {
            int[] cells = new int[3];
            int nulls = 0;
            for (int i = 0; i < row.length; i++) {
                nulls |= row[i] == null ? 1 << i : 0;
                cells[i] = row[i] == null ? 77 : row[i];
            }
            engine.row(number, cells[0], cells[1], cells[2], nulls);
        }
    }

    static void end() {
        System.out.println(wrong == 0 ? "all answers are as due" : wrong + " answers are not as due");
        System.exit(wrong == 0 ? 0 : 1);
    }
}
