/** Promises 10 to 12: cell, size and rounds, and how long an answer is there. */
final class AnswerTest {
    private static final String TEXT = "WITH RECURSIVE p(x) AS (SELECT 1 UNION SELECT r.x+1 FROM p r WHERE r.x<3),"
            + " q(x) AS (SELECT f.a FROM t0 f) SELECT f.x,g.x,NULL FROM p f,q g WHERE f.x<3";

    private AnswerTest() {
    }

    public static void main(String[] args) {
        cells();
        sizes();
        rounds();
        howLong();
        noParts();
        Kit.end();
    }

    private static FixpointEngine answered() {
        FixpointEngine e = new FixpointEngine();
        Kit.table(e, new Integer[][] {{5}, {4}});
        Kit.dueFine(e, 2, TEXT);
        Kit.due("rows", e.run(4, 9), 4);
        return e;
    }

    private static void dueOut(String what, java.util.concurrent.Callable<?> call) {
        Kit.dueThrown(what, call, IndexOutOfBoundsException.class);
    }

    private static void cells() {
        FixpointEngine e = answered();
        Kit.due("row 0", e.cell(0, 0) + " " + e.cell(0, 1), "1 4");
        Kit.due("row 1", e.cell(1, 0) + " " + e.cell(1, 1), "1 5");
        Kit.due("row 3", e.cell(3, 0) + " " + e.cell(3, 1), "2 5");
        Kit.due("a cell that is NULL", e.cell(3, 2), FixpointEngine.NULL);
        dueOut("row 4", () -> e.cell(4, 0));
        dueOut("row -1", () -> e.cell(-1, 0));
        dueOut("item 3", () -> e.cell(0, 3));
        dueOut("item -1", () -> e.cell(0, -1));
        dueOut("greatest of both", () -> e.cell(Integer.MAX_VALUE, Integer.MAX_VALUE));
        dueOut("least of both", () -> e.cell(Integer.MIN_VALUE, Integer.MIN_VALUE));
    }

    private static void sizes() {
        FixpointEngine e = answered();
        Kit.due("size 0", e.size(0), 3);
        Kit.due("size 1", e.size(1), 2);
        dueOut("size 2", () -> e.size(2));
        dueOut("size -1", () -> e.size(-1));
        dueOut("greatest", () -> e.size(Integer.MAX_VALUE));
    }

    private static void rounds() {
        FixpointEngine e = answered();
        Kit.due("component 0", Kit.rounds(e, 0), "4: 1 1 1 0");
        Kit.due("component 1", Kit.rounds(e, 1), "1: 2");
        dueOut("round 5", () -> e.rounds(0, 5));
        dueOut("round -1", () -> e.rounds(0, -1));
        dueOut("round 2 of component 1", () -> e.rounds(1, 2));
        dueOut("component 2", () -> e.rounds(2, 0));
        dueOut("component -1", () -> e.rounds(-1, 0));
        dueOut("greatest of both", () -> e.rounds(Integer.MAX_VALUE, Integer.MAX_VALUE));
    }

    private static void dueNone(String what, FixpointEngine e) {
        dueOut("no cell: " + what, () -> e.cell(0, 0));
        dueOut("no size: " + what, () -> e.size(0));
        dueOut("no rounds: " + what, () -> e.rounds(0, 0));
    }

    private static void howLong() {
        FixpointEngine e = answered();
        e.clear(0);
        e.row(0, 9, 0, 0, 0);
        e.table(3);
        Kit.feed(e, "SELECT 1");
        Kit.due("rows, tables and texts leave it", e.cell(3, 1) + " " + e.size(1) + " " + e.rounds(1, 1), "5 2 2");
        Kit.dueThrown("wrong arguments", () -> e.run(31, 49), IllegalArgumentException.class);
        Kit.due("leave it, too", e.cell(3, 1) + " " + e.size(1), "5 2");
        Kit.dueThrown("too few rounds", () -> e.run(3, 48), UnsupportedOperationException.class);
        dueNone("after too few rounds", e);
        Kit.due("a run brings one again", e.run(30, 48), 2);
        Kit.due("of the rows that are now", e.cell(1, 1) + " " + e.size(1), "9 1");
        Kit.dueThrown("too few rows", () -> e.run(30, 5), UnsupportedOperationException.class);
        dueNone("after too few rows", e);
        e.run(30, 48);
        Kit.due("prepare", e.prepare(), 0);
        dueNone("after prepare", e);
        Kit.due("another query", e.run(1, 1), 1);
        Kit.dueThrown("prepare of an empty text", e::prepare, IllegalArgumentException.class);
        dueNone("after a prepare that threw", e);

        FixpointEngine f = answered();
        Kit.dueFine(f, 1, "WITH p(x) AS (SELECT f.a+2 FROM t0 f) SELECT f.x FROM p f");
        f.run(1, 48);
        f.row(0, Integer.MAX_VALUE, 0, 0, 0);
        Kit.dueThrown("out of range", () -> f.run(1, 48), ArithmeticException.class);
        dueNone("after something out of range", f);
    }

    private static void noParts() {
        FixpointEngine e = answered();
        Kit.dueFine(e, 0, "SELECT f.a FROM t0 f WHERE f.a>9");
        Kit.due("an answer without rows", e.run(1, 1), 0);
        dueNone("a query without parts and rows", e);
    }
}
