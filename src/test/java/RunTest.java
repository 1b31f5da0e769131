/** Promise 9: run, without recursion: values, combinations, groups, sorting, errors. */
final class RunTest {
    private static final String INT = "2147483647";

    private RunTest() {
    }

    public static void main(String[] args) {
        arguments();
        values();
        conditions();
        notExists();
        combinations();
        groups();
        parts();
        sorting();
        outOfRange();
        tooManyRows();
        firstError();
        Kit.end();
    }

    /** t0: (1,2) (2,NULL) (3,2) (1,5); t1: 1, 2, 2, NULL; t2: the greatest int, the least, 1. */
    private static FixpointEngine engine() {
        FixpointEngine e = new FixpointEngine();
        Kit.table(e, new Integer[][] {{1, 2}, {2, null}, {3, 2}, {1, 5}});
        Kit.table(e, new Integer[][] {{1}, {2}, {2}, {null}});
        Kit.table(e, new Integer[][] {{Integer.MAX_VALUE}, {Integer.MIN_VALUE}, {1}});
        return e;
    }

    private static void due(String text, String answer) {
        Kit.dueAnswer(engine(), text, answer);
    }

    private static void dueRun(String text, int rows, String answer) {
        Kit.dueRun(engine(), text, 30, rows, answer);
    }

    private static void arguments() {
        FixpointEngine e = engine();
        Kit.dueThrown("rounds 0, no query", () -> e.run(0, 1), IllegalArgumentException.class);
        Kit.dueThrown("no query", () -> e.run(1, 1), IllegalStateException.class);
        Kit.dueFine(e, 0, "SELECT 1");
        Kit.dueThrown("rounds 0", () -> e.run(0, 1), IllegalArgumentException.class);
        Kit.dueThrown("rounds 31", () -> e.run(31, 1), IllegalArgumentException.class);
        Kit.dueThrown("rows 0", () -> e.run(1, 0), IllegalArgumentException.class);
        Kit.dueThrown("rows 49", () -> e.run(1, 49), IllegalArgumentException.class);
        Kit.due("least of both", e.run(1, 1), 1);
        Kit.due("most of both", e.run(30, 48), 1);
        Kit.dueThrown("rows -1", () -> e.run(1, -1), IllegalArgumentException.class);
        Kit.due("the answer is left by wrong arguments", e.cell(0, 0), 1);
    }

    private static void values() {
        due("SELECT 1", "1");
        due("SELECT 9-3-2+1, 0012, NULL, 1+NULL", "5 12 NULL NULL");
        due("SELECT f.a-f.b FROM t0 f", "NULL; -4; -1; 1");
        due("SELECT f.a-f.a+f.a FROM t2 f", "-2147483648; 1; " + INT);
        // Only the whole item must be an int.
        due("SELECT f.a+f.a-f.a FROM t2 f", "-2147483648; 1; " + INT);
    }

    private static void conditions() {
        due("SELECT f.a,f.b FROM t0 f WHERE f.b=2", "1 2; 3 2");
        due("SELECT f.a,f.b FROM t0 f WHERE f.b<>2", "1 5");
        due("SELECT f.a FROM t0 f WHERE f.a<2", "1; 1");
        due("SELECT f.a FROM t0 f WHERE f.a>2", "3");
        due("SELECT f.a FROM t0 f WHERE f.b IS NULL", "2");
        due("SELECT f.a FROM t0 f WHERE f.a+f.b IS NULL", "2");
        due("SELECT 1 WHERE NULL=NULL", "");
        due("SELECT 1 WHERE NULL<>NULL", "");
        due("SELECT 1 WHERE 1 IS NULL", "");
        due("SELECT f.a,f.b FROM t0 f WHERE f.a=1 AND f.b>2", "1 5");
        due("SELECT 1 FROM t2 f WHERE f.a+f.a>9999 AND f.a+f.a+1-1=f.a+f.a", "1");
        due("SELECT 7 WHERE 1=2", "");
    }

    private static void notExists() {
        due("SELECT f.a FROM t0 f WHERE NOT EXISTS(SELECT 1 FROM t1 g WHERE g.a=f.a)", "3");
        due("SELECT f.a FROM t0 f WHERE NOT EXISTS(SELECT 1 FROM t1 g)", "");
        due("SELECT f.a FROM t0 f WHERE NOT EXISTS(SELECT 1 FROM t1 g WHERE g.a=f.b)", "1; 2");
        due("SELECT f.a FROM t0 f WHERE NOT EXISTS(SELECT 1 FROM t0 g WHERE g.a=f.a AND f.b<g.b)", "1; 2; 3");
        due("SELECT 1 WHERE NOT EXISTS(SELECT 1 FROM t1 g WHERE g.a=1 AND g.a=2)", "1");
        due("SELECT f.a FROM t1 f WHERE NOT EXISTS(SELECT 1 FROM t1 g WHERE g.a>f.a AND g.a IS NULL)",
                "NULL; 1; 2; 2");
        FixpointEngine e = engine();
        e.clear(1);
        Kit.dueAnswer(e, "SELECT 5 WHERE NOT EXISTS(SELECT 1 FROM t1 g)", "5");
    }

    private static void combinations() {
        due("SELECT f.a,g.a FROM t1 f,t1 g WHERE f.a<g.a", "1 2; 1 2");
        due("SELECT f.a,g.a,h.a FROM t2 f,t2 g,t2 h WHERE f.a<g.a AND g.a<h.a", "-2147483648 1 " + INT);
        due("SELECT COUNT(*) FROM t0 f,t1 g,t2 h", "48");
        FixpointEngine e = engine();
        e.clear(1);
        Kit.dueAnswer(e, "SELECT f.a FROM t0 f,t1 g", "");
    }

    private static void groups() {
        due("SELECT COUNT(*),SUM(f.b),MIN(f.b),MAX(f.b) FROM t0 f", "4 9 2 5");
        due("SELECT COUNT(*),SUM(f.a),MIN(f.a),MAX(f.a) FROM t0 f WHERE 1=2", "0 NULL NULL NULL");
        due("SELECT f.a,COUNT(*),SUM(f.b),MAX(f.b) FROM t0 f", "1 2 7 5; 2 1 NULL NULL; 3 1 2 2");
        due("SELECT f.a,COUNT(*) FROM t0 f WHERE 1=2", "");
        due("SELECT f.a,COUNT(*) FROM t1 f", "NULL 1; 1 1; 2 2");
        due("SELECT SUM(f.a),f.b FROM t0 f", "1 5; 2 NULL; 4 2");
        due("SELECT 1,COUNT(*) FROM t0 f WHERE 1=2", "");
        due("SELECT COUNT(*)", "1");
        due("SELECT MIN(NULL),MAX(3),SUM(1+1)", "NULL 3 2");
        due("SELECT f.a-f.a,NULL,COUNT(*) FROM t1 f", "NULL NULL 1; 0 NULL 3");
        due("SELECT MIN(f.a),MAX(f.a),SUM(f.a) FROM t2 f", "-2147483648 " + INT + " 0");
    }

    private static void parts() {
        due("WITH p(x) AS (SELECT f.a FROM t1 f) SELECT f.x FROM p f", "NULL; 1; 2; 2");
        due("WITH p(x) AS (SELECT f.a FROM t1 f UNION SELECT 2) SELECT f.x FROM p f", "NULL; 1; 2");
        due("WITH p(x) AS (SELECT f.a FROM t1 f UNION ALL SELECT 2) SELECT f.x FROM p f", "NULL; 1; 2; 2; 2");
        due("WITH p(x) AS (SELECT NULL UNION SELECT NULL) SELECT f.x FROM p f", "NULL");
        due("WITH p(x,y) AS (SELECT 1,2 UNION SELECT 1,3 UNION SELECT 2,3) SELECT f.y,f.x FROM p f", "2 1; 3 1; 3 2");
        due("WITH p(x) AS (SELECT 1), q(x) AS (SELECT f.x+1 FROM p f) SELECT f.x,g.x FROM p f,q g", "1 2");
        due("WITH RECURSIVE p(x) AS (SELECT f.x+1 FROM q f), q(x) AS (SELECT 4) SELECT f.x FROM p f", "5");
        due("WITH p(x) AS (SELECT 1), q(x) AS (SELECT 2), r(x) AS (SELECT 3), s(x) AS (SELECT f.x+1 FROM r f)"
                + " SELECT f.x,g.x FROM p f,s g", "1 4");
        due("WITH t1(a) AS (SELECT f.a FROM t0 f) SELECT f.a FROM t1 f", "1; 1; 2; 3");
    }

    private static void sorting() {
        due("SELECT f.a,f.b FROM t0 f", "1 2; 1 5; 2 NULL; 3 2");
        due("SELECT f.a,f.b FROM t0 f ORDER BY f.b", "2 NULL; 1 2; 3 2; 1 5");
        due("SELECT f.a FROM t0 f ORDER BY f.b,f.a", "2; 1; 3; 1");
        due("SELECT f.b FROM t0 f ORDER BY f.a", "2; 5; NULL; 2");
        due("SELECT g.a,f.a FROM t1 f,t2 g WHERE g.a<2 ORDER BY f.a,g.a",
                "-2147483648 NULL; 1 NULL; -2147483648 1; 1 1; -2147483648 2; -2147483648 2; 1 2; 1 2");
        due("SELECT 5-f.a FROM t0 f ORDER BY f.a", "4; 4; 3; 2");
    }

    private static void outOfRange() {
        String arithmetic = "ArithmeticException";
        due("SELECT f.a+1 FROM t2 f", arithmetic);
        due("SELECT f.a-1 FROM t2 f WHERE f.a<0", arithmetic);
        due("SELECT f.a+1 FROM t2 f WHERE f.a<2", "-2147483647; 2");
        due("SELECT f.a+0 FROM t2 f", "-2147483648; 1; " + INT);
        due("SELECT SUM(f.a) FROM t2 f WHERE f.a>0", arithmetic);
        due("SELECT SUM(f.a+f.a) FROM t2 f WHERE f.a<>1", "-2");
        due("SELECT MIN(f.a+f.a) FROM t2 f", arithmetic);
        due("SELECT MAX(f.a+f.a) FROM t2 f", arithmetic);
        due("SELECT MAX(f.a+f.a) FROM t2 f WHERE f.a<2", "2");
        due("SELECT MIN(f.a+f.a) FROM t2 f WHERE f.a>0", "2");
        due("WITH p(x) AS (SELECT f.a+f.a FROM t2 f) SELECT 1", arithmetic);
        due("SELECT f.a+f.a,COUNT(*) FROM t2 f", arithmetic);
    }

    private static void tooManyRows() {
        String rows = "UnsupportedOperationException";
        dueRun("SELECT f.a FROM t1 f", 4, "NULL; 1; 2; 2");
        dueRun("SELECT f.a FROM t1 f", 3, rows);
        dueRun("WITH p(x) AS (SELECT f.a FROM t1 f) SELECT 1", 5, "1");
        dueRun("WITH p(x) AS (SELECT f.a FROM t1 f) SELECT 1", 4, rows);
        dueRun("WITH p(x) AS (SELECT f.a FROM t1 f UNION SELECT 1 UNION SELECT 2) SELECT 1", 4, "1");
        dueRun("WITH p(x) AS (SELECT f.a FROM t1 f), q(x) AS (SELECT f.a FROM t0 f) SELECT 1 WHERE 1=2", 8, "");
        dueRun("WITH p(x) AS (SELECT f.a FROM t1 f), q(x) AS (SELECT f.a FROM t0 f) SELECT 1 WHERE 1=2", 7, rows);
        dueRun("SELECT f.a,COUNT(*) FROM t0 f", 3, "1 2; 2 1; 3 1");
        dueRun("SELECT f.a,COUNT(*) FROM t0 f", 2, rows);
        dueRun("SELECT COUNT(*) FROM t0 f,t1 g,t2 h", 1, "48");
        dueRun("SELECT f.a FROM t0 f,t1 g,t2 h", 48, "1; ".repeat(24) + "2; ".repeat(12) + "3; ".repeat(11) + "3");
        dueRun("WITH p(x) AS (SELECT 1) SELECT f.a FROM t0 f,t1 g,t2 h", 48, rows);
        manyGroups();
    }

    private static void manyGroups() {
        FixpointEngine e = new FixpointEngine();
        e.table(1);
        e.table(1);
        for (int i = 0; i < 16; i++) {
            e.row(0, i, 0, 0, 0);
        }
        StringBuilder answer = new StringBuilder();
        for (int i = 0; i < 48; i++) {
            answer.append(i == 0 ? "" : "; ").append(i).append(" 1 ").append(i).append(" ").append(i);
        }
        e.row(1, 0, 0, 0, 0);
        e.row(1, 16, 0, 0, 0);
        e.row(1, 32, 0, 0, 0);
        String text = "SELECT f.a+g.a,COUNT(*),SUM(f.a+g.a),MAX(f.a+g.a) FROM t0 f,t1 g";
        Kit.dueRun(e, text, 1, 48, answer.toString());
        Kit.dueRun(e, text, 1, 47, "UnsupportedOperationException");
        e.row(1, 48, 0, 0, 0);
        Kit.dueRun(e, text, 1, 48, "UnsupportedOperationException");
    }

    private static void firstError() {
        String arithmetic = "ArithmeticException";
        String rows = "UnsupportedOperationException";
        // First an item out of range, wherever it stands among the combinations.
        dueRun("SELECT 2+g.a-f.a-f.a FROM t1 f,t2 g WHERE f.a=1", 1, rows);
        dueRun("SELECT 2-g.a FROM t1 f,t2 g", 1, arithmetic);
        FixpointEngine late = new FixpointEngine();
        Kit.table(late, new Integer[][] {{1}, {2}, {Integer.MAX_VALUE}});
        Kit.dueRun(late, "SELECT f.a+1 FROM t0 f", 30, 1, arithmetic);
        Kit.dueRun(late, "SELECT f.a+1,COUNT(*) FROM t0 f", 30, 1, arithmetic);
        // Then groups before SUM, MIN and MAX.
        Kit.dueRun(late, "SELECT f.a,SUM(f.a+1) FROM t0 f", 30, 2, rows);
        Kit.dueRun(late, "SELECT f.a,SUM(f.a+1) FROM t0 f", 30, 3, arithmetic);
        // Then SUM, MIN and MAX before the rows that come.
        Kit.dueRun(late, "WITH p(x) AS (SELECT 1) SELECT f.a,SUM(f.a+1) FROM t0 f", 30, 3, arithmetic);
        Kit.dueRun(late, "WITH p(x) AS (SELECT 1) SELECT f.a,SUM(f.a) FROM t0 f", 30, 3, rows);
        // A selection before the next one.
        Kit.dueRun(late, "WITH p(x) AS (SELECT f.a FROM t0 f UNION SELECT f.a+1 FROM t0 f) SELECT 1", 30, 2, rows);
        Kit.dueRun(late, "WITH p(x) AS (SELECT f.a FROM t0 f UNION SELECT f.a+1 FROM t0 f) SELECT 1", 30, 3, arithmetic);
        Kit.dueThrown("there is no answer then", () -> late.size(0), IndexOutOfBoundsException.class);
        // What an error left behind does not touch the next run.
        Kit.dueRun(late, "SELECT COUNT(*),MAX(f.a+1) FROM t0 f", 30, 3, arithmetic);
        Kit.dueRun(late, "SELECT COUNT(*) FROM t0 f", 30, 3, "3");
        Kit.dueRun(late, "SELECT f.a,SUM(f.a+1) FROM t0 f", 30, 3, arithmetic);
        Kit.dueRun(late, "SELECT f.a,SUM(f.a) FROM t0 f WHERE f.a<3", 30, 3, "1 1; 2 2");
    }
}
