/** Promises 1 to 4 and what Terms say of TABLES: a test for each sentence that names a bound, on both sides of it. */
final class EdgeTableTest {
    private static final int[] FAR = {-1, Integer.MIN_VALUE, Integer.MAX_VALUE};

    private EdgeTableTest() {
    }

    public static void main(String[] args) {
        newObjectHasNothing();
        newObjectIsApart();
        atMostFiveTables();
        fourTablesAreNotFull();
        oneToThreeColumns();
        columnsOfATableTooMany();
        columnsAreNamed();
        tablesAreNamed();
        atMostSixteenRows();
        sixteenRowsOfEachTable();
        rowsMoreThanOnce();
        cellsThatCount();
        bitsOfNulls();
        bitsBeyond();
        cellsAtTheEdges();
        rowOfNoSuchTable();
        clearTellsHowMany();
        clearOfNoSuchTable();
        Kit.end();
    }

    /** "No tables, an empty text, no query." */
    private static void newObjectHasNothing() {
        FixpointEngine e = new FixpointEngine();
        Kit.dueThrown("no table for a row", () -> e.row(0, 1, 2, 3, 0), IllegalArgumentException.class);
        Kit.dueThrown("no table to clear", () -> e.clear(0), IllegalArgumentException.class);
        Kit.dueNoQuery("a new object", e);
        Kit.dueNoAnswer("a new object", e);
        Kit.due("no prepare threw", e.fault(), 0);
        // The place tells that nothing stood before this text.
        Kit.dueFault(e, 2, "SELECT 1 FROM ^t0 f");
        FixpointEngine f = new FixpointEngine();
        Kit.dueThrown("an empty text is no query", f::prepare, IllegalArgumentException.class);
        Kit.due("it ends at 0", f.fault(), 1);
    }

    private static void newObjectIsApart() {
        FixpointEngine used = Kit.engine(new Integer[][] {{1}});
        Kit.dueAnswer(used, "SELECT f.a FROM t0 f", "1");
        Kit.feed(used, "SELECT 1");
        FixpointEngine e = new FixpointEngine();
        Kit.dueThrown("the other's table", () -> e.row(0, 1, 2, 3, 0), IllegalArgumentException.class);
        Kit.dueNoQuery("the other's query", e);
        Kit.dueThrown("the other's text", e::prepare, IllegalArgumentException.class);
        Kit.due("is not this one's", e.fault(), 1);
        Kit.due("the other has its answer", used.cell(0, 0), 1);
        Kit.due("the other has its text", used.prepare(), 0);
    }

    /** "IllegalStateException: there are five." */
    private static void atMostFiveTables() {
        FixpointEngine e = new FixpointEngine();
        for (int i = 0; i < 5; i++) {
            Kit.due("table " + i, e.table(3), i);
        }
        for (int columns = 1; columns <= 3; columns++) {
            int count = columns;
            Kit.dueThrown("a sixth of " + count, () -> e.table(count), IllegalStateException.class);
        }
        Kit.due("the fifth is there", e.row(4, 1, 2, 3, 0), 1);
        Kit.dueThrown("the sixth is not", () -> e.row(5, 1, 2, 3, 0), IllegalArgumentException.class);
        Kit.dueThrown("nor to be cleared", () -> e.clear(5), IllegalArgumentException.class);
        Kit.dueAnswer(e, "SELECT f.a,f.b,f.c FROM t4 f", "1 2 3");
        Kit.dueFault(e, 2, "SELECT 1 FROM ^t5 f");
    }

    private static void fourTablesAreNotFull() {
        FixpointEngine e = Kit.columns(1, 1, 1, 1);
        Kit.dueThrown("no fifth yet", () -> e.row(4, 1, 2, 3, 0), IllegalArgumentException.class);
        Kit.dueFault(e, 2, "SELECT 1 FROM ^t4 f");
        Kit.due("the fifth comes", e.table(2), 4);
        Kit.dueFine(e, 0, "SELECT f.b FROM t4 f");
    }

    /** "IllegalArgumentException: columns is not 1 .. 3". */
    private static void oneToThreeColumns() {
        FixpointEngine e = new FixpointEngine();
        for (int columns : new int[] {0, 4, -1, Integer.MIN_VALUE, Integer.MAX_VALUE}) {
            Kit.dueThrown(columns + " columns", () -> e.table(columns), IllegalArgumentException.class);
            Kit.dueThrown("no table came", () -> e.clear(0), IllegalArgumentException.class);
        }
        Kit.dueFault(e, 2, "SELECT 1 FROM ^t0 f");
        Kit.due("one column", e.table(1), 0);
        Kit.due("three columns", e.table(3), 1);
        Kit.dueThrown("four columns", () -> e.table(4), IllegalArgumentException.class);
        Kit.due("two columns", e.table(2), 2);
    }

    /** Both exceptions are due: the one that is said first comes. */
    private static void columnsOfATableTooMany() {
        FixpointEngine e = Kit.columns(1, 2, 3, 1, 2);
        Kit.dueThrown("no columns", () -> e.table(0), IllegalArgumentException.class);
        Kit.dueThrown("four columns", () -> e.table(4), IllegalArgumentException.class);
    }

    /** "has 1 to 3 columns, named a, b, c". */
    private static void columnsAreNamed() {
        FixpointEngine e = Kit.columns(1, 2, 3);
        Kit.dueFine(e, 0, "SELECT f.a FROM t0 f");
        Kit.dueFault(e, 2, "SELECT ^f.b FROM t0 f");
        Kit.dueFine(e, 0, "SELECT f.a,f.b FROM t1 f");
        Kit.dueFault(e, 2, "SELECT ^f.c FROM t1 f");
        Kit.dueFine(e, 0, "SELECT f.a,f.b,f.c FROM t2 f");
        Kit.dueFault(e, 2, "SELECT ^f.d FROM t2 f");
        Kit.dueFault(e, 2, "SELECT ^f.z FROM t2 f");
        Kit.dueFault(e, 2, "SELECT ^f.a0 FROM t2 f");
        Kit.dueFault(e, 2, "SELECT ^f.ab FROM t2 f");
    }

    /** "table n is named t and the digit n". */
    private static void tablesAreNamed() {
        FixpointEngine e = Kit.columns(1, 1);
        Kit.dueFine(e, 0, "SELECT 1 FROM t0 f,t1 g");
        for (String name : new String[] {"t2", "t9", "t", "t00", "t01", "ta", "s0", "u0", "tt0", "t0t0"}) {
            Kit.dueFault(e, 2, "SELECT 1 FROM ^" + name + " f");
        }
    }

    /** "at most 16 in a table"; "IllegalStateException: it has sixteen rows." */
    private static void atMostSixteenRows() {
        FixpointEngine e = Kit.columns(1);
        for (int round = 0; round < 2; round++) {
            for (int i = 1; i <= 16; i++) {
                Kit.due("row " + i, e.row(0, i, 0, 0, 0), i);
            }
            Kit.dueThrown("a seventeenth", () -> e.row(0, 99, 0, 0, 0), IllegalStateException.class);
            Kit.dueThrown("nor one of NULL", () -> e.row(0, 99, 0, 0, 1), IllegalStateException.class);
            Kit.dueAnswer(e, "SELECT COUNT(*),MIN(f.a),MAX(f.a),SUM(f.a) FROM t0 f", "16 1 16 136");
            Kit.due("sixteen go", e.clear(0), 16);
        }
    }

    private static void sixteenRowsOfEachTable() {
        FixpointEngine e = Kit.columns(1, 2, 3, 1, 2);
        for (int i = 1; i <= 16; i++) {
            for (int table = 0; table < 5; table++) {
                Kit.due("row " + i + " of table " + table, e.row(table, i, -i, i, 0), i);
            }
        }
        for (int table = 0; table < 5; table++) {
            int full = table;
            Kit.dueThrown("table " + full + " is full", () -> e.row(full, 1, 1, 1, 0), IllegalStateException.class);
        }
        Kit.due("one is cleared", e.clear(2), 16);
        Kit.due("it takes rows again", e.row(2, 1, 1, 1, 0), 1);
        Kit.dueThrown("the next one is full still", () -> e.row(3, 1, 1, 1, 0), IllegalStateException.class);
    }

    /** "rows may be there more than once". */
    private static void rowsMoreThanOnce() {
        FixpointEngine e = Kit.columns(2);
        for (int i = 1; i <= 16; i++) {
            Kit.due("once more", e.row(0, 7, 0, 0, 2), i);
        }
        Kit.dueAnswer(e, "SELECT f.a,f.b,COUNT(*) FROM t0 f", "7 NULL 16");
    }

    /** "Of a, b, c those count for which it has a column". */
    private static void cellsThatCount() {
        FixpointEngine e = Kit.columns(1, 2, 3);
        for (int table = 0; table < 3; table++) {
            e.row(table, 1, 2, 3, 0);
            e.row(table, 1, table > 0 ? 2 : 8, table > 1 ? 3 : 9, 0);
        }
        Kit.dueAnswer(e, "SELECT f.a,COUNT(*) FROM t0 f", "1 2");
        Kit.dueAnswer(e, "SELECT f.a,f.b,COUNT(*) FROM t1 f", "1 2 2");
        Kit.dueAnswer(e, "SELECT f.a,f.b,f.c,COUNT(*) FROM t2 f", "1 2 3 2");
    }

    /** "bit 0, 1, 2 of nulls: that cell is NULL instead." */
    private static void bitsOfNulls() {
        for (int nulls = 0; nulls < 8; nulls++) {
            FixpointEngine e = Kit.columns(1, 2, 3);
            for (int table = 0; table < 3; table++) {
                e.row(table, 4, 5, 6, nulls);
            }
            String a = (nulls & 1) != 0 ? "NULL" : "4";
            String b = (nulls & 2) != 0 ? "NULL" : "5";
            String c = (nulls & 4) != 0 ? "NULL" : "6";
            Kit.dueAnswer(e, "SELECT f.a FROM t0 f", a);
            Kit.dueAnswer(e, "SELECT f.a,f.b FROM t1 f", a + " " + b);
            Kit.dueAnswer(e, "SELECT f.a,f.b,f.c FROM t2 f", a + " " + b + " " + c);
        }
    }

    /** Of nulls just three bits are told of: others say nothing. */
    private static void bitsBeyond() {
        for (int nulls : new int[] {8, 16, 256, ~7, Integer.MIN_VALUE}) {
            FixpointEngine e = Kit.columns(3);
            e.row(0, 4, 5, 6, nulls);
            e.row(0, 4, 5, 6, nulls | 2);
            Kit.dueAnswer(e, "SELECT f.a,f.b,f.c FROM t0 f", "4 NULL 6; 4 5 6");
        }
    }

    /** "a CELL for each column, an int or NULL"; "What answers for a cell that is NULL." */
    private static void cellsAtTheEdges() {
        FixpointEngine e = Kit.columns(3);
        e.row(0, Integer.MIN_VALUE, -1, Integer.MAX_VALUE, 0);
        e.row(0, Integer.MAX_VALUE, 0, Integer.MIN_VALUE, 7);
        Kit.dueFine(e, 0, "SELECT f.a,f.b,f.c FROM t0 f");
        Kit.due("two rows", e.run(1, 2), 2);
        for (int i = 0; i < 3; i++) {
            Kit.due("NULL answers", e.cell(0, i), 1L << 40);
        }
        Kit.due("the constant", FixpointEngine.NULL, 1L << 40);
        Kit.due("the least int", e.cell(1, 0), -2147483648L);
        Kit.due("below 0", e.cell(1, 1), -1L);
        Kit.due("the greatest int", e.cell(1, 2), 2147483647L);
    }

    /** Of row: "IllegalArgumentException: there is no such table". */
    private static void rowOfNoSuchTable() {
        FixpointEngine e = new FixpointEngine();
        for (int tables = 0; tables <= 5; tables++) {
            int next = tables;
            Kit.dueThrown("row of table " + next, () -> e.row(next, 1, 1, 1, 0), IllegalArgumentException.class);
            for (int far : FAR) {
                Kit.dueThrown("row of table " + far, () -> e.row(far, 1, 1, 1, 0), IllegalArgumentException.class);
            }
            if (tables < 5) {
                e.table(1);
                Kit.due("nothing came of them", e.row(next, 1, 1, 1, 0), 1);
            }
        }
        for (int table = 0; table < 5; table++) {
            Kit.due("one row each", e.clear(table), 1);
        }
    }

    /** "All rows of a table go: how many." */
    private static void clearTellsHowMany() {
        FixpointEngine e = Kit.columns(1, 1);
        e.row(1, 5, 0, 0, 0);
        for (int rows = 0; rows <= 16; rows++) {
            for (int i = 1; i <= rows; i++) {
                Kit.due("row " + i, e.row(0, i, 0, 0, 0), i);
            }
            Kit.due("all go", e.clear(0), rows);
            Kit.due("none is left", e.clear(0), 0);
        }
        Kit.dueAnswer(e, "SELECT f.a FROM t0 f", "");
        Kit.dueAnswer(e, "SELECT f.a FROM t1 f", "5");
    }

    /** Of clear: "IllegalArgumentException: there is no such table." */
    private static void clearOfNoSuchTable() {
        FixpointEngine e = new FixpointEngine();
        for (int tables = 0; tables <= 5; tables++) {
            int next = tables;
            Kit.dueThrown("clear of table " + next, () -> e.clear(next), IllegalArgumentException.class);
            for (int far : FAR) {
                Kit.dueThrown("clear of table " + far, () -> e.clear(far), IllegalArgumentException.class);
            }
            if (tables < 5) {
                e.table(1);
                Kit.due("a row", e.row(next, 1, 1, 1, 0), 1);
            }
        }
        for (int table = 0; table < 5; table++) {
            Kit.due("no row went", e.row(table, 1, 1, 1, 0), 2);
        }
    }
}
