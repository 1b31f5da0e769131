/** Promises 1 to 4: a new object, table, row, clear. */
final class TableTest {
    private TableTest() {
    }

    public static void main(String[] args) {
        newObject();
        tables();
        rows();
        clears();
        Kit.end();
    }

    private static void newObject() {
        FixpointEngine e = new FixpointEngine();
        Kit.due("NULL", FixpointEngine.NULL, 1099511627776L);
        Kit.due("no fault yet", e.fault(), 0);
        Kit.dueThrown("no table to come to", () -> e.row(0, 1, 2, 3, 0), IllegalArgumentException.class);
        Kit.dueThrown("no table to clear", () -> e.clear(0), IllegalArgumentException.class);
        Kit.dueThrown("no query to run", () -> e.run(1, 1), IllegalStateException.class);
        Kit.dueThrown("no part", () -> e.part(0, 0), java.util.NoSuchElementException.class);
        Kit.dueThrown("no cell", () -> e.cell(0, 0), IndexOutOfBoundsException.class);
        Kit.dueThrown("no size", () -> e.size(0), IndexOutOfBoundsException.class);
        Kit.dueThrown("no rounds", () -> e.rounds(0, 0), IndexOutOfBoundsException.class);
        Kit.dueThrown("an empty text is no query", e::prepare, IllegalArgumentException.class);
        Kit.due("it ends too early, at 0", e.fault(), 1);
    }

    private static void tables() {
        FixpointEngine e = new FixpointEngine();
        Kit.dueThrown("0 columns", () -> e.table(0), IllegalArgumentException.class);
        Kit.dueThrown("4 columns", () -> e.table(4), IllegalArgumentException.class);
        Kit.dueThrown("least columns", () -> e.table(Integer.MIN_VALUE), IllegalArgumentException.class);
        for (int i = 0; i < 5; i++) {
            Kit.due("table " + i, e.table(i % 3 + 1), i);
        }
        Kit.dueThrown("a sixth table", () -> e.table(1), IllegalStateException.class);
        Kit.dueThrown("a sixth table of no columns", () -> e.table(0), IllegalArgumentException.class);
        Kit.dueFine(e, 0, "SELECT x.a, y.b, z.c FROM t0 x, t1 y, t2 z");
        Kit.dueFine(e, 0, "SELECT x.a, y.b FROM t3 x, t4 y");
        Kit.dueFault(e, 2, "SELECT ^x.b FROM t0 x");
        Kit.dueFault(e, 2, "SELECT ^x.c FROM t1 x");
        Kit.dueFault(e, 2, "SELECT ^x.d FROM t2 x");
        Kit.dueFault(e, 2, "SELECT ^x.a FROM t5 x");
    }

    private static void rows() {
        FixpointEngine e = new FixpointEngine();
        e.table(1);
        e.table(2);
        e.table(3);
        Kit.due("a first row", e.row(0, 5, 6, 7, 0), 1);
        Kit.due("the same row once more", e.row(0, 5, 8, 9, -2), 2);
        Kit.due("a row of NULL", e.row(0, 5, 6, 7, 1), 3);
        Kit.dueAnswer(e, "SELECT x.a FROM t0 x", "NULL; 5; 5");
        e.row(1, Integer.MIN_VALUE, Integer.MAX_VALUE, 1, 4);
        e.row(1, 1, 2, 3, 2);
        Kit.dueAnswer(e, "SELECT x.a, x.b FROM t1 x", "-2147483648 2147483647; 1 NULL");
        e.row(2, 1, 2, 3, 8);
        e.row(2, 1, 2, 3, 4);
        e.row(2, 1, 2, 3, 3);
        Kit.dueAnswer(e, "SELECT x.a, x.b, x.c FROM t2 x", "NULL NULL 3; 1 2 NULL; 1 2 3");
        Kit.dueThrown("no table -1", () -> e.row(-1, 0, 0, 0, 0), IllegalArgumentException.class);
        Kit.dueThrown("no table 3", () -> e.row(3, 0, 0, 0, 0), IllegalArgumentException.class);
        for (int i = 4; i <= 16; i++) {
            Kit.due("row " + i, e.row(0, i, 0, 0, 0), i);
        }
        Kit.dueThrown("a seventeenth row", () -> e.row(0, 0, 0, 0, 0), IllegalStateException.class);
        Kit.dueAnswer(e, "SELECT COUNT(*), MAX(x.a) FROM t0 x", "16 16");
    }

    private static void clears() {
        FixpointEngine e = new FixpointEngine();
        e.table(1);
        e.table(1);
        Kit.due("nothing to clear", e.clear(1), 0);
        for (int i = 0; i < 16; i++) {
            e.row(0, i, 0, 0, 0);
        }
        e.row(1, 3, 0, 0, 0);
        Kit.due("all sixteen go", e.clear(0), 16);
        Kit.due("none is left", e.clear(0), 0);
        Kit.due("a row comes to the empty table", e.row(0, 9, 0, 0, 0), 1);
        Kit.dueAnswer(e, "SELECT x.a, y.a FROM t0 x, t1 y", "9 3");
        Kit.dueThrown("no table -1", () -> e.clear(-1), IllegalArgumentException.class);
        Kit.dueThrown("no table 2", () -> e.clear(2), IllegalArgumentException.class);
        e.clear(1);
        Kit.due("run takes the rows there are now", e.run(1, 1), 0);
    }
}
