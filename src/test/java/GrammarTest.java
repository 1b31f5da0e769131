/** Promises 6 and 7: prepare and fault, with the grammar of a query (fault 1). */
final class GrammarTest {
    private GrammarTest() {
    }

    public static void main(String[] args) {
        queries();
        parts();
        selections();
        conditions();
        expressions();
        Kit.end();
    }

    /** A new one for each text, for an object is used for 512 calls at most. */
    private static FixpointEngine engine() {
        FixpointEngine engine = new FixpointEngine();
        engine.table(2);
        return engine;
    }

    private static void fine(int parts, String text) {
        Kit.dueFine(engine(), parts, text);
    }

    private static void fault(String marked) {
        Kit.dueFault(engine(), 1, marked);
    }

    private static void queries() {
        fault("^");
        fault("^RECURSIVE p(x) AS (SELECT 1) SELECT 1");
        fault("WITH ^SELECT 1");
        fault("WITH p(x) AS (SELECT 1)^");
        fault("WITH p(x) AS (SELECT 1), ^SELECT 1");
        fine(1, "WITH p(x) AS (SELECT 1) SELECT 1");
        fine(4, "WITH RECURSIVE p(x)AS(SELECT 1),q(x)AS(SELECT 1),r(x)AS(SELECT 1),s(x)AS(SELECT 1)SELECT 1");
        fault("WITH p(x)AS(SELECT 1),q(x)AS(SELECT 1),r(x)AS(SELECT 1),s(x)AS(SELECT 1)^,v(x)AS(SELECT 1)SELECT 1");
        fine(0, "SELECT f.a FROM t0 f ORDER BY f.b");
        fine(0, "SELECT f.a FROM t0 f ORDER BY f.b, f.a");
        fault("SELECT f.a FROM t0 f ORDER BY f.b, f.a^, f.b");
        fault("SELECT f.a FROM t0 f ORDER ^f.b");
        fault("SELECT f.a FROM t0 f ORDER BY ^1");
        fault("SELECT f.a FROM t0 f ORDER BY ^NULL");
        fault("SELECT f.a FROM t0 f ORDER BY f.a^+f.b");
        fault("SELECT f.a FROM t0 f ORDER BY f^");
        fault("SELECT f.a FROM t0 f ORDER BY f.a ^SELECT 1");
        fault("SELECT 1 ^UNION SELECT 2");
        fault("SELECT 1^)");
    }

    private static void parts() {
        fault("WITH ^1(x) AS (SELECT 1) SELECT 1");
        fault("WITH p ^AS (SELECT 1) SELECT 1");
        fault("WITH p(^) AS (SELECT 1) SELECT 1");
        fine(1, "WITH p(x,y,z) AS (SELECT 1,2,3) SELECT 1");
        fault("WITH p(x,y,z^,w) AS (SELECT 1,2,3,4) SELECT 1");
        fault("WITH p(x) ^(SELECT 1) SELECT 1");
        fault("WITH p(x) AS ^SELECT 1 SELECT 1");
        fault("WITH p(x) AS (SELECT 1 ^SELECT 1");
        fine(1, "WITH p(x) AS (SELECT 1 UNION SELECT 2 UNION SELECT 3 UNION SELECT 4) SELECT 1");
        fine(1, "WITH p(x) AS (SELECT 1 UNION ALL SELECT 2 UNION ALL SELECT 3 UNION ALL SELECT 4) SELECT 1");
        fault("WITH p(x) AS (SELECT 1 UNION SELECT 2 UNION SELECT 3 UNION SELECT 4 ^UNION SELECT 5) SELECT 1");
        fault("WITH p(x) AS (SELECT 1 ^ALL SELECT 2) SELECT 1");
        fault("WITH p(x) AS (SELECT 1 UNION ALL ^ALL SELECT 2) SELECT 1");
        fault("WITH p(x) AS (SELECT 1 ^ORDER BY f.a) SELECT 1");
        String begin = "WITH RECURSIVE p(x) AS (SELECT 1 UNION SELECT r.x+1 FROM p r WHERE r.x<3) ";
        fine(1, begin + "SEARCH DEPTH FIRST BY x SET k SELECT 1");
        fine(1, begin + "SEARCH BREADTH FIRST BY x SET k SELECT 1");
        fine(1, begin + "CYCLE x SET m SELECT 1");
        fine(1, begin + "SEARCH DEPTH FIRST BY x SET k CYCLE x SET m SELECT 1");
        fault(begin + "CYCLE x SET m ^SEARCH DEPTH FIRST BY x SET k SELECT 1");
        fault(begin + "SEARCH ^FIRST BY x SET k SELECT 1");
        fault(begin + "SEARCH DEPTH ^BREADTH FIRST BY x SET k SELECT 1");
        fault(begin + "SEARCH DEPTH ^BY x SET k SELECT 1");
        fault(begin + "SEARCH DEPTH FIRST ^x SET k SELECT 1");
        fault(begin + "SEARCH DEPTH FIRST BY ^1 SET k SELECT 1");
        fault(begin + "SEARCH DEPTH FIRST BY x^, y SET k SELECT 1");
        fault(begin + "SEARCH DEPTH FIRST BY x SET ^SELECT 1");
        fault(begin + "CYCLE ^SET m SELECT 1");
        fault(begin + "CYCLE x ^m SELECT 1");
        fault(begin + "CYCLE x SET m ^CYCLE x SET n SELECT 1");
    }

    private static void selections() {
        fault("SELECT ^");
        fault("SELECT ^FROM t0 f");
        fault("SELECT ^* FROM t0 f");
        fine(0, "SELECT 1,2,3,4");
        fault("SELECT 1,2,3,4^,5");
        fault("SELECT 1,^");
        fine(0, "SELECT 1 FROM t0 f, t0 g, t0 h");
        fault("SELECT 1 FROM t0 f, t0 g, t0 h^, t0 i");
        fault("SELECT 1 FROM ^");
        fault("SELECT 1 FROM t0^");
        fault("SELECT 1 FROM t0^, t0 g");
        fault("SELECT 1 FROM t0 f ^g");
        fault("SELECT 1 ^WITH");
        fine(0, "SELECT COUNT(*), SUM(f.a), MIN(f.a+1), MAX(2) FROM t0 f");
        fault("SELECT COUNT(^f.a) FROM t0 f");
        fault("SELECT COUNT ^* FROM t0 f");
        fault("SELECT SUM(^*) FROM t0 f");
        fault("SELECT SUM(f.a^, f.b) FROM t0 f");
        fault("SELECT SUM(f.a)^+1 FROM t0 f");
        fault("SELECT 1+^SUM(f.a) FROM t0 f");
        fault("SELECT MAX(^MIN(f.a)) FROM t0 f");
        fault("SELECT ^(1)");
    }

    private static void conditions() {
        fine(0, "SELECT 1 WHERE 1=1 AND 1<>2 AND 1<2 AND 2>1 AND NULL IS NULL AND 3=3");
        fault("SELECT 1 WHERE 1=1 AND 1<>2 AND 1<2 AND 2>1 AND NULL IS NULL AND 3=3 ^AND 1=1");
        fault("SELECT 1 WHERE ^");
        fault("SELECT 1 WHERE 1^");
        fault("SELECT 1 WHERE 1 ^AND 2=2");
        fault("SELECT 1 WHERE 1=1 AND ^");
        fault("SELECT 1 WHERE 1=1^, 2=2");
        fault("SELECT 1 WHERE 1=1^=1");
        fault("SELECT 1 WHERE 1 IS ^NOT NULL");
        fault("SELECT 1 WHERE 1 IS NULL ^IS NULL");
        fault("SELECT 1 WHERE ^COUNT(*)=1");
        fault("SELECT 1 WHERE ^EXISTS(SELECT 1 FROM t0 f)");
        fault("SELECT 1 WHERE NOT ^1=1");
        fine(0, "SELECT 1 WHERE NOT EXISTS(SELECT 1 FROM t0 f)");
        fine(0, "SELECT 1 WHERE NOT EXISTS(SELECT 0001 FROM t0 f WHERE f.a=1 AND f.b IS NULL AND 1<2) AND 1=1");
        fault("SELECT 1 WHERE NOT EXISTS(SELECT 1 FROM t0 f WHERE 1=1 AND 1=1 AND 1=1 ^AND 1=1)");
        fault("SELECT 1 WHERE NOT EXISTS ^SELECT 1 FROM t0 f");
        fault("SELECT 1 WHERE NOT EXISTS(^1 FROM t0 f)");
        fault("SELECT 1 WHERE NOT EXISTS(SELECT ^2 FROM t0 f)");
        fault("SELECT 1 WHERE NOT EXISTS(SELECT ^10 FROM t0 f)");
        fault("SELECT 1 WHERE NOT EXISTS(SELECT ^00001 FROM t0 f)");
        fault("SELECT 1 WHERE NOT EXISTS(SELECT ^f.a FROM t0 f)");
        fault("SELECT 1 WHERE NOT EXISTS(SELECT 1^+0 FROM t0 f)");
        fault("SELECT 1 WHERE NOT EXISTS(SELECT 1^)");
        fault("SELECT 1 WHERE NOT EXISTS(SELECT 1 FROM t0 f^, t0 g)");
        fault("SELECT 1 WHERE NOT EXISTS(SELECT 1 FROM t0 f WHERE ^NOT EXISTS(SELECT 1 FROM t0 g))");
        fault("SELECT 1 WHERE NOT EXISTS(SELECT 1 FROM t0 f^");
        fault("SELECT 1 ^AND 1=1");
    }

    private static void expressions() {
        fine(0, "SELECT 1+2-3+NULL");
        fault("SELECT 1+2-3+4^-5");
        fault("SELECT 1+2-3+4^+5");
        fault("SELECT ^-1");
        fault("SELECT 1+^-1");
        fault("SELECT 1+^");
        fault("SELECT 1 ^1");
        fault("SELECT 1^*2");
        fault("SELECT f ^FROM t0 f");
        fault("SELECT f.^1 FROM t0 f");
        fault("SELECT f.^NULL FROM t0 f");
        fault("SELECT ^.a FROM t0 f");
    }
}
