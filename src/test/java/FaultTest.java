/** Promises 6 and 7: prepare and fault, with the faults 2 to 8. */
final class FaultTest {
    private static final String STEP = " UNION SELECT r.x+1 FROM p r WHERE r.x<3";

    private FaultTest() {
    }

    public static void main(String[] args) {
        partNames();
        columnNames();
        aliases();
        sources();
        columns();
        searchNames();
        orderBy();
        widths();
        mixed();
        barred();
        anchor();
        linear();
        notRecursive();
        firstOfAll();
        afterwards();
        Kit.end();
    }

    /** A new one for each text, for an object is used for 512 calls at most. */
    private static FixpointEngine engine() {
        FixpointEngine engine = new FixpointEngine();
        engine.table(2);
        engine.table(1);
        return engine;
    }

    private static void fine(int parts, String text) {
        Kit.dueFine(engine(), parts, text);
    }

    private static void fault(int number, String marked) {
        Kit.dueFault(engine(), number, marked);
    }

    private static void partNames() {
        fault(2, "WITH p(x) AS (SELECT 1), ^p(x) AS (SELECT 2) SELECT 1");
        fault(2, "WITH p(x) AS (SELECT 1), q(x) AS (SELECT 2), ^p(y) AS (SELECT 3) SELECT f.x FROM p f");
        // The name means the first part: y is none of its columns, and that stands before nothing else here.
        fault(2, "WITH p(x) AS (SELECT 1), q(x) AS (SELECT ^f.y FROM p f), p(y) AS (SELECT 3) SELECT 1");
        fine(1, "WITH t0(x) AS (SELECT 1) SELECT f.x FROM t0 f");
        fault(2, "WITH t0(x) AS (SELECT 1) SELECT ^f.a FROM t0 f");
        fine(1, "WITH p(p) AS (SELECT p.a FROM t0 p) SELECT p.p FROM p p");
    }

    private static void columnNames() {
        fault(2, "WITH p(x,^x) AS (SELECT 1,2) SELECT 1");
        fault(2, "WITH p(x,y,^x) AS (SELECT 1,2,3) SELECT 1");
        fault(2, "WITH RECURSIVE p(x) AS (SELECT 1" + STEP + ") SEARCH DEPTH FIRST BY x SET ^x SELECT 1");
        fault(2, "WITH RECURSIVE p(x) AS (SELECT 1" + STEP + ") CYCLE x SET ^x SELECT 1");
        fault(2, "WITH RECURSIVE p(x) AS (SELECT 1" + STEP + ") SEARCH DEPTH FIRST BY x SET k CYCLE x SET ^k SELECT 1");
        fine(2, "WITH p(x) AS (SELECT 1), q(x) AS (SELECT 2) SELECT 1");
    }

    private static void aliases() {
        fault(2, "SELECT 1 FROM t0 f, t1 ^f");
        fault(2, "SELECT 1 FROM t0 f, t1 g, t1 ^g");
        fault(2, "SELECT 1 FROM t0 f, t1 g WHERE NOT EXISTS(SELECT 1 FROM t1 ^g)");
        fine(0, "SELECT 1 FROM t0 f WHERE NOT EXISTS(SELECT 1 FROM t1 g) AND NOT EXISTS(SELECT 1 FROM t1 g)");
        fine(1, "WITH p(x) AS (SELECT f.a FROM t0 f) SELECT f.x FROM p f");
        // f is the first source that has it: t0, which has a column b.
        fault(2, "SELECT f.b FROM t0 f, t1 ^f");
        fault(2, "SELECT ^f.b FROM t1 f, t0 f");
        fault(2, "SELECT 1 FROM t1 f WHERE NOT EXISTS(SELECT 1 FROM t0 ^f WHERE f.b=1)");
    }

    private static void sources() {
        fault(2, "SELECT 1 FROM ^t2 f");
        fault(2, "SELECT 1 FROM ^t f");
        fault(2, "SELECT 1 FROM ^t00 f");
        fault(2, "SELECT 1 FROM ^p f");
        fault(2, "SELECT 1 WHERE NOT EXISTS(SELECT 1 FROM ^p f)");
        fault(2, "WITH p(x) AS (SELECT 1" + STEP.replace(" p ", " ^p ") + ") SELECT 1");
        fault(2, "WITH p(x) AS (SELECT f.x FROM ^q f), q(x) AS (SELECT 1) SELECT 1");
        fault(2, "WITH p(x) AS (SELECT 1 WHERE NOT EXISTS(SELECT 1 FROM ^q f)), q(x) AS (SELECT 1) SELECT 1");
        fault(2, "WITH p(x) AS (SELECT ^f.y FROM q f), q(x) AS (SELECT 1) SELECT 1");
        fine(2, "WITH RECURSIVE p(x) AS (SELECT f.x FROM q f), q(x) AS (SELECT 1) SELECT 1");
        fine(2, "WITH p(x) AS (SELECT 1), q(x) AS (SELECT f.x FROM p f) SELECT f.x FROM q f");
    }

    private static void columns() {
        fault(2, "SELECT ^f.a");
        fault(2, "SELECT ^g.a FROM t0 f");
        fault(2, "SELECT f.a+^f.c FROM t0 f");
        fault(2, "SELECT ^f.aa FROM t0 f");
        fault(2, "SELECT SUM(^f.b) FROM t1 f");
        fault(2, "SELECT ^f.a FROM t9 f");
        fault(2, "SELECT 1 FROM t0 f WHERE f.a=^g.a");
        fault(2, "SELECT 1 FROM t0 f WHERE ^g.a IS NULL");
        fine(0, "SELECT 1 FROM t0 f WHERE NOT EXISTS(SELECT 1 FROM t1 g WHERE g.a=f.b)");
        fault(2, "SELECT 1 FROM t0 f WHERE NOT EXISTS(SELECT 1 FROM t1 g WHERE ^g.b=f.b)");
        fault(2, "SELECT 1 FROM t0 f WHERE NOT EXISTS(SELECT 1 FROM t1 g) AND ^g.a=1");
        fault(2, "SELECT ^g.a FROM t0 f WHERE NOT EXISTS(SELECT 1 FROM t1 g)");
        fault(2, "WITH p(x) AS (SELECT f.a FROM t0 f) SELECT ^f.a FROM t1 g");
        String part = "WITH RECURSIVE p(x) AS (SELECT 1" + STEP + ") SEARCH DEPTH FIRST BY x SET k CYCLE x SET m ";
        fine(1, part + "SELECT f.x,f.m FROM p f ORDER BY f.k,f.m");
        fault(2, part + "SELECT ^f.k FROM p f");
        fault(2, part + "SELECT f.x FROM p f WHERE ^f.k=1");
        fault(2, part + "SELECT f.x FROM p f ORDER BY ^f.a");
        fault(2, part + "SELECT f.x FROM p f ORDER BY f.x,^g.x");
        fault(2, part + "SELECT f.x FROM p f WHERE NOT EXISTS(SELECT 1 FROM p g) ORDER BY ^g.x");
        fine(1, part.replace("r.x<3", "r.m=0") + "SELECT 1");
        fault(2, part.replace("r.x<3", "^r.k=0") + "SELECT 1");
    }

    private static void searchNames() {
        String part = "WITH RECURSIVE p(x) AS (SELECT 1" + STEP + ") ";
        fault(2, part + "SEARCH DEPTH FIRST BY ^y SET k SELECT 1");
        fault(2, part + "SEARCH DEPTH FIRST BY ^m SET k CYCLE x SET m SELECT 1");
        fault(2, part + "CYCLE ^y SET m SELECT 1");
        fault(2, part + "CYCLE ^m SET m SELECT 1");
        fault(2, part + "SEARCH DEPTH FIRST BY x SET k CYCLE ^k SET m SELECT 1");
    }

    private static void orderBy() {
        fault(2, "SELECT COUNT(*) FROM t0 f ^ORDER BY f.a");
        fault(2, "SELECT f.a,MAX(f.b) FROM t0 f ^ORDER BY f.a");
        fault(2, "SELECT f.a,MAX(^f.c) FROM t0 f ORDER BY f.a");
        fine(1, "WITH p(x) AS (SELECT COUNT(*) FROM t0 f) SELECT f.x FROM p f ORDER BY f.x");
    }

    private static void widths() {
        fault(3, "WITH p(x) AS (^SELECT 1,2) SELECT 1");
        fault(3, "WITH p(x,y) AS (SELECT 1,2 UNION ^SELECT 1) SELECT 1");
        fault(3, "WITH p(x,y,z) AS (SELECT 1,2,3 UNION ^SELECT 1,2,3,4 UNION SELECT 1) SELECT 1");
        fault(3, "WITH RECURSIVE p(x) AS (SELECT 1 UNION ^SELECT r.x,r.m FROM p r) CYCLE x SET m SELECT 1");
        fine(1, "WITH p(x) AS (SELECT 1) SELECT 1,2,3,4");
    }

    private static void mixed() {
        fault(4, "WITH ^p(x) AS (SELECT 1 UNION SELECT 2 UNION ALL SELECT 3) SELECT 1");
        fault(4, "WITH p(x) AS (SELECT 1), ^q(x) AS (SELECT 1 UNION ALL SELECT 2 UNION SELECT 3) SELECT 1");
        fault(3, "WITH p(x) AS (SELECT 1 UNION SELECT 2 UNION ALL ^SELECT 3,3) SELECT 1");
    }

    private static void barred() {
        fault(5, "WITH RECURSIVE p(x) AS (SELECT 1 UNION SELECT MAX(r.x) FROM ^p r) SELECT 1");
        fault(5, "WITH RECURSIVE p(x) AS (SELECT 1 UNION SELECT COUNT(*) FROM t0 f,^p r) SELECT 1");
        fault(5, "WITH RECURSIVE p(x) AS (SELECT 1 UNION SELECT 2 WHERE NOT EXISTS(SELECT 1 FROM ^p r)) SELECT 1");
        fault(5, "WITH RECURSIVE p(x) AS (SELECT COUNT(*) FROM t0 f WHERE NOT EXISTS(SELECT 1 FROM ^p r)) SELECT 1");
        fault(5, "WITH RECURSIVE p(x) AS (SELECT 1 UNION SELECT r.x FROM q r), q(x) AS (SELECT 1 UNION SELECT"
                + " r.x FROM p r WHERE NOT EXISTS(SELECT 1 FROM ^p g)) SELECT 1");
        fine(2, "WITH RECURSIVE q(x) AS (SELECT 1), p(x) AS (SELECT COUNT(*) FROM q f" + STEP
                + " AND NOT EXISTS(SELECT 1 FROM q f)) SELECT 1");
    }

    private static void anchor() {
        fault(6, "WITH RECURSIVE ^p(x) AS (SELECT r.x FROM p r) SELECT 1");
        fault(6, "WITH RECURSIVE ^p(x) AS (SELECT r.x FROM p r UNION SELECT 1) SELECT 1");
        fault(6, "WITH RECURSIVE p(x) AS (SELECT 1 UNION SELECT r.x FROM q r), ^q(x) AS (SELECT r.x FROM p r) SELECT 1");
        fine(1, "WITH RECURSIVE p(x) AS (SELECT 1" + STEP + " UNION SELECT 7) SELECT 1");
    }

    private static void linear() {
        String twice = "WITH RECURSIVE ^p(x) AS (SELECT 1 UNION SELECT r.x+s.x FROM p r,p s WHERE r.x+s.x<5)";
        fine(1, twice.replace("^", "") + " SELECT 1");
        fault(7, twice.replace("UNION", "UNION ALL") + " SELECT 1");
        fault(7, twice + " SEARCH DEPTH FIRST BY x SET k SELECT 1");
        fault(7, twice + " CYCLE x SET m SELECT 1");
        String pair = "WITH RECURSIVE p(x) AS (SELECT 1 UNION SELECT r.x FROM q r), ^q(x) AS (SELECT 1 UNION SELECT"
                + " r.x FROM p r)";
        fine(2, pair.replace("^", "") + " SELECT 1");
        fault(7, pair + " CYCLE x SET m SELECT 1");
        fault(7, pair + " SEARCH BREADTH FIRST BY x SET k SELECT 1");
        fault(7, pair.replace("^q(x) AS (SELECT 1 UNION", "^q(x) AS (SELECT 1 UNION ALL") + " SELECT 1");
        fine(1, "WITH RECURSIVE p(x) AS (SELECT 1 UNION ALL SELECT r.x+1 FROM p r WHERE r.x<3 UNION ALL SELECT r.x+2"
                + " FROM p r WHERE r.x<3) CYCLE x SET m SELECT 1");
        fine(2, "WITH q(x) AS (SELECT 1), p(x) AS (SELECT f.x+g.x FROM q f,q g UNION ALL SELECT 2) SELECT 1");
    }

    private static void notRecursive() {
        fault(8, "WITH ^p(x) AS (SELECT 1) SEARCH DEPTH FIRST BY x SET k SELECT 1");
        fault(8, "WITH RECURSIVE ^p(x) AS (SELECT 1 UNION SELECT 2) CYCLE x SET m SELECT 1");
        fault(8, "WITH RECURSIVE p(x) AS (SELECT 1" + STEP
                + ") CYCLE x SET m, ^q(x) AS (SELECT f.x FROM p f) SEARCH BREADTH FIRST BY x SET k SELECT 1");
    }

    private static void firstOfAll() {
        fault(1, "WITH p(x,x) AS (SELECT 1) SELECT f.a ^f");
        fault(2, "WITH p(x) AS (SELECT 1,2), q(x) AS (SELECT 1) SELECT ^f.a");
        fault(3, "WITH RECURSIVE p(x) AS (SELECT r.x FROM p r), q(x) AS (^SELECT 1,2) SELECT 1");
        fault(4, "WITH RECURSIVE p(x) AS (SELECT MAX(r.x) FROM p r), ^q(x) AS (SELECT 1 UNION SELECT 2 UNION ALL"
                + " SELECT 3) SELECT 1");
        fault(5, "WITH RECURSIVE p(x) AS (SELECT r.x FROM p r), q(x) AS (SELECT 1 UNION SELECT MAX(r.x) FROM ^q r)"
                + " SELECT 1");
        fault(6, "WITH RECURSIVE p(x) AS (SELECT 1 UNION ALL SELECT r.x FROM p r,p s), ^q(x) AS (SELECT r.x FROM q r)"
                + " SELECT 1");
        fault(7, "WITH RECURSIVE p(x) AS (SELECT 1) CYCLE x SET m, ^q(x) AS (SELECT 1 UNION ALL SELECT r.x FROM q r,"
                + "q s) SELECT 1");
    }

    private static void afterwards() {
        FixpointEngine e = engine();
        Kit.due("no fault before the first prepare", e.fault(), 0);
        Kit.dueFine(e, 0, "SELECT 1");
        Kit.due("there is a query", Kit.run(e, 1, 1), "1");
        Kit.dueFault(e, 1, "SELECT ^");
        Kit.dueThrown("there is no query then", () -> e.run(1, 1), IllegalStateException.class);
        Kit.dueThrown("there is no answer", () -> e.cell(0, 0), IndexOutOfBoundsException.class);
        Kit.due("the fault stays", e.fault(), 71);
        Kit.dueFine(e, 0, "SELECT 2");
        Kit.dueThrown("there is no answer yet", () -> e.cell(0, 0), IndexOutOfBoundsException.class);
        Kit.due("there is a query again", Kit.run(e, 1, 1), "2");
        Kit.dueFine(e, 0, "SELECT 3");
        Kit.dueThrown("prepare takes the answer away", () -> e.cell(0, 0), IndexOutOfBoundsException.class);
        e.table(1);
        Kit.dueFine(e, 0, "SELECT 1 FROM t2 f");
    }
}
