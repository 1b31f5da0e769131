/** Promises 9, 11 and 12: run, size and rounds, with parts that need themselves. */
final class RecursionTest {
    private static final String MORE = "UnsupportedOperationException";

    private RecursionTest() {
    }

    public static void main(String[] args) {
        union();
        unionAll();
        manySelections();
        twoParts();
        components();
        limits();
        overAndOver();
        Kit.end();
    }

    /** t0: edges, with the ring 1 2 3 and 4 hanging from 3. */
    private static FixpointEngine engine() {
        FixpointEngine e = new FixpointEngine();
        Kit.table(e, new Integer[][] {{1, 2}, {2, 3}, {3, 1}, {3, 4}});
        return e;
    }

    /** The answer, the rounds of component 0 and the rows of part 0 are due. */
    private static void due(String text, String answer, String rounds, int size) {
        FixpointEngine e = engine();
        Kit.dueAnswer(e, text, answer);
        Kit.due("rounds of " + text, Kit.rounds(e, 0), rounds);
        Kit.due("size of " + text, e.size(0), size);
    }

    private static void union() {
        due("WITH RECURSIVE p(x,y) AS (SELECT e.a,e.b FROM t0 e UNION SELECT r.x,e.b FROM p r,t0 e WHERE r.y=e.a)"
                + " SELECT f.x,f.y FROM p f",
                "1 1; 1 2; 1 3; 1 4; 2 1; 2 2; 2 3; 2 4; 3 1; 3 2; 3 3; 3 4", "4: 4 4 4 0", 12);
        due("WITH RECURSIVE p(x) AS (SELECT 1 UNION SELECT r.x+1 FROM p r WHERE r.x<5) SELECT f.x FROM p f",
                "1; 2; 3; 4; 5", "6: 1 1 1 1 1 0", 5);
        due("WITH RECURSIVE p(x) AS (SELECT 1 UNION SELECT r.x FROM p r) SELECT f.x FROM p f", "1", "2: 1 0", 1);
        due("WITH RECURSIVE p(x) AS (SELECT 1 WHERE 1=2 UNION SELECT r.x+1 FROM p r) SELECT f.x FROM p f", "",
                "1: 0", 0);
        due("WITH RECURSIVE p(x) AS (SELECT NULL UNION SELECT r.x+1 FROM p r) SELECT f.x FROM p f", "NULL",
                "2: 1 0", 1);
        due("WITH RECURSIVE p(x) AS (SELECT 1 UNION SELECT r.x+s.x FROM p r,p s WHERE r.x+s.x<9) SELECT f.x FROM p f",
                "1; 2; 3; 4; 5; 6; 7; 8", "5: 1 1 2 4 0", 8);
    }

    private static void unionAll() {
        due("WITH RECURSIVE p(x) AS (SELECT 1 UNION ALL SELECT r.x+1 FROM p r WHERE r.x<4) SELECT f.x FROM p f",
                "1; 2; 3; 4", "5: 1 1 1 1 0", 4);
        due("WITH RECURSIVE p(x) AS (SELECT 1 UNION ALL SELECT 1 UNION ALL SELECT r.x+1 FROM p r WHERE r.x<3)"
                + " SELECT f.x FROM p f", "1; 1; 2; 2; 3; 3", "4: 2 2 2 0", 6);
        due("WITH RECURSIVE p(x) AS (SELECT 1 UNION ALL SELECT r.x+1 FROM p r WHERE r.x<3 UNION ALL SELECT 10)"
                + " SELECT f.x FROM p f", "1; 2; 3; 10", "4: 2 1 1 0", 4);
        due("WITH RECURSIVE p(x) AS (SELECT 1 UNION ALL SELECT r.x+1 FROM p r WHERE r.x<3 UNION ALL SELECT r.x+2"
                + " FROM p r WHERE r.x<3) SELECT f.x FROM p f", "1; 2; 3; 3; 4", "4: 1 2 2 0", 5);
    }

    private static void manySelections() {
        due("WITH RECURSIVE p(x) AS (SELECT 1 UNION SELECT r.x+1 FROM p r WHERE r.x<4 UNION SELECT r.x+1 FROM p r"
                + " WHERE r.x<4) SELECT f.x FROM p f", "1; 2; 3; 4", "5: 1 1 1 1 0", 4);
        due("WITH RECURSIVE p(x) AS (SELECT 1 UNION SELECT r.x+3 FROM p r WHERE r.x<4 UNION SELECT 2 UNION"
                + " SELECT r.x+1 FROM p r WHERE r.x<4) SELECT f.x FROM p f", "1; 2; 3; 4; 5; 6", "4: 2 3 1 0", 6);
        due("WITH RECURSIVE p(x) AS (SELECT COUNT(*) FROM t0 e UNION SELECT r.x-1 FROM p r WHERE NOT EXISTS("
                + "SELECT 1 FROM t0 e WHERE r.x+2=e.b)) SELECT f.x FROM p f", "2; 3; 4",
                "4: 1 1 1 0", 3);
    }

    private static void twoParts() {
        FixpointEngine e = engine();
        Kit.dueAnswer(e, "WITH RECURSIVE e(x) AS (SELECT 0 UNION SELECT r.x+1 FROM o r WHERE r.x<5),"
                + " o(x) AS (SELECT 1 WHERE 1=2 UNION SELECT r.x+1 FROM e r WHERE r.x<5)"
                + " SELECT f.x,g.x FROM e f,o g WHERE f.x+1=g.x", "0 1; 2 3; 4 5");
        Kit.due("each part has what the other had when the round began", Kit.rounds(e, 0), "7: 1 1 1 1 1 1 0");
        Kit.due("even ones", e.size(0), 3);
        Kit.due("odd ones", e.size(1), 3);
        Kit.dueThrown("they are one component", () -> e.rounds(1, 0), IndexOutOfBoundsException.class);
    }

    private static void components() {
        FixpointEngine e = engine();
        Kit.dueAnswer(e, "WITH RECURSIVE q(x) AS (SELECT MAX(f.x) FROM p f UNION SELECT r.x-2 FROM q r WHERE r.x>2),"
                + " p(x) AS (SELECT 1 UNION SELECT r.x+1 FROM p r WHERE r.x<5), s(x) AS (SELECT 7)"
                + " SELECT f.x FROM q f", "1; 3; 5");
        Kit.due("p comes first", Kit.rounds(e, 0), "6: 1 1 1 1 1 0");
        Kit.due("then q", Kit.rounds(e, 1), "4: 1 1 1 0");
        Kit.due("then s, though nobody needs it", Kit.rounds(e, 2), "1: 1");
        Kit.due("rows of q", e.size(0), 3);
        Kit.due("rows of p", e.size(1), 5);
        Kit.due("rows of s", e.size(2), 1);
    }

    private static void limits() {
        String count = "WITH RECURSIVE p(x) AS (SELECT 1 UNION SELECT r.x+1 FROM p r WHERE r.x<5) SELECT COUNT(*)"
                + " FROM p f";
        Kit.dueRun(engine(), count, 6, 48, "5");
        Kit.dueRun(engine(), count, 5, 48, MORE);
        Kit.dueRun(engine(), count, 6, 6, "5");
        Kit.dueRun(engine(), count, 6, 5, MORE);
        Kit.dueRun(engine(), count.replace("UNION", "UNION ALL"), 6, 6, "5");
        Kit.dueRun(engine(), count.replace("UNION", "UNION ALL"), 5, 6, MORE);
        Kit.dueRun(engine(), count.replace("x<5", "x<29"), 30, 48, "29");
        Kit.dueRun(engine(), count.replace("x<5", "x<30"), 30, 48, MORE);
        // One that is not recursive has one round, even where no more is allowed.
        Kit.dueRun(engine(), "WITH p(x) AS (SELECT e.a FROM t0 e) SELECT COUNT(*) FROM p f", 1, 48, "4");
        Kit.dueRun(engine(), "WITH RECURSIVE p(x) AS (SELECT 1 WHERE 1=2 UNION SELECT r.x FROM p r) SELECT 3", 1, 1,
                "3");
        String twice = "WITH RECURSIVE p(x) AS (SELECT 9999 UNION SELECT r.x+r.x FROM p r) SELECT 1";
        Kit.dueRun(engine(), twice, 18, 48, MORE);
        Kit.dueRun(engine(), twice, 19, 48, "ArithmeticException");
        Kit.dueRun(engine(), twice, 30, 18, "ArithmeticException");
        Kit.dueRun(engine(), twice, 30, 17, MORE);
    }

    private static void overAndOver() {
        FixpointEngine e = engine();
        String text = "WITH RECURSIVE p(x) AS (SELECT 1 UNION SELECT e.b FROM p r,t0 e WHERE r.x=e.a) SELECT f.x FROM p f";
        Kit.dueFine(e, 1, text);
        Kit.due("a first run", Kit.run(e, 30, 48), "1; 2; 3; 4");
        Kit.due("the same again", Kit.run(e, 30, 48), "1; 2; 3; 4");
        Kit.due("too few rounds", Kit.run(e, 3, 48), MORE);
        Kit.due("nothing is left of it", Kit.run(e, 30, 48), "1; 2; 3; 4");
        e.row(0, 4, 9, 0, 0);
        Kit.due("with one more row", Kit.run(e, 30, 48), "1; 2; 3; 4; 9");
        Kit.due("its rounds", Kit.rounds(e, 0), "6: 1 1 1 1 1 0");
        e.clear(0);
        Kit.due("without rows", Kit.run(e, 30, 48), "1");
        Kit.due("two rounds", Kit.rounds(e, 0), "2: 1 0");
    }
}
