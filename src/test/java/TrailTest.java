/** Promise 9: run, with SEARCH and CYCLE: trails, MARK, and sorting by trails. */
final class TrailTest {
    private static final String WALK = "WITH RECURSIVE p(x) AS (SELECT 1 UNION SELECT e.b FROM p r,t0 e WHERE e.a=r.x) ";
    private static final String DEPTH = "SEARCH DEPTH FIRST BY x SET k ";
    private static final String BREADTH = "SEARCH BREADTH FIRST BY x SET k ";
    private static final String CYCLE = "CYCLE x SET m ";
    private static final String ORDERED = "SELECT f.x FROM p f ORDER BY f.k";

    private TrailTest() {
    }

    public static void main(String[] args) {
        tree();
        diamond();
        ways();
        ring();
        nulls();
        otherColumn();
        bothTrails();
        sorting();
        Kit.end();
    }

    private static FixpointEngine engine(Integer[][] edges) {
        FixpointEngine e = new FixpointEngine();
        Kit.table(e, edges);
        return e;
    }

    private static void due(Integer[][] edges, String text, String answer, String rounds) {
        FixpointEngine e = engine(edges);
        Kit.dueAnswer(e, text, answer);
        Kit.due("rounds of " + text, Kit.rounds(e, 0), rounds);
    }

    private static void tree() {
        Integer[][] tree = {{1, 9}, {9, 2}, {1, 3}, {3, 8}, {3, null}};
        due(tree, WALK + DEPTH + ORDERED, "1; 3; NULL; 8; 9; 2", "4: 1 2 3 0");
        due(tree, WALK + BREADTH + ORDERED, "1; 3; 9; NULL; 2; 8", "4: 1 2 3 0");
        due(tree, WALK.replace("UNION", "UNION ALL") + DEPTH + ORDERED, "1; 3; NULL; 8; 9; 2", "4: 1 2 3 0");
        due(tree, WALK.replace("UNION", "UNION ALL") + BREADTH + ORDERED, "1; 3; 9; NULL; 2; 8", "4: 1 2 3 0");
    }

    private static void diamond() {
        Integer[][] diamond = {{1, 2}, {1, 3}, {2, 4}, {3, 4}};
        due(diamond, WALK + "SELECT f.x FROM p f", "1; 2; 3; 4", "4: 1 2 1 0");
        due(diamond, WALK + DEPTH + ORDERED, "1; 2; 4; 3; 4", "4: 1 2 2 0");
        due(diamond, WALK + BREADTH + ORDERED, "1; 2; 3; 4", "4: 1 2 1 0");
        due(diamond, WALK + CYCLE + "SELECT f.x,f.m FROM p f", "1 0; 2 0; 3 0; 4 0; 4 0", "4: 1 2 2 0");
        due(diamond, WALK.replace("UNION", "UNION ALL") + BREADTH + ORDERED, "1; 2; 3; 4; 4", "4: 1 2 2 0");
    }

    private static void ways() {
        Integer[][] ways = {{1, 2}, {2, 3}, {1, 3}};
        due(ways, WALK + "SELECT f.x FROM p f", "1; 2; 3", "3: 1 2 0");
        due(ways, WALK + BREADTH + ORDERED, "1; 2; 3; 3", "4: 1 2 1 0");
        due(ways, WALK + DEPTH + ORDERED, "1; 2; 3; 3", "4: 1 2 1 0");
    }

    private static void ring() {
        Integer[][] ring = {{1, 2}, {2, 3}, {3, 1}};
        String marked = "SELECT f.x,f.m FROM p f";
        due(ring, WALK + CYCLE + marked, "1 0; 1 1; 2 0; 3 0", "5: 1 1 1 1 0");
        due(ring, WALK.replace("UNION", "UNION ALL") + CYCLE + marked, "1 0; 1 1; 2 0; 3 0", "5: 1 1 1 1 0");
        due(ring, WALK + DEPTH + CYCLE + marked + " ORDER BY f.k", "1 0; 2 0; 3 0; 1 1", "5: 1 1 1 1 0");
        due(ring, WALK + CYCLE + marked + " ORDER BY f.m,f.x", "1 0; 2 0; 3 0; 1 1", "5: 1 1 1 1 0");
        Kit.dueAnswer(engine(ring), WALK + "SELECT f.x FROM p f", "1; 2; 3");
        Kit.dueAnswer(engine(ring), WALK + DEPTH + "SELECT f.x FROM p f", "UnsupportedOperationException");
        // Rows with MARK 1 are there for others.
        Kit.dueAnswer(engine(ring), WALK.trim() + CYCLE + ",q(x) AS (SELECT f.x FROM p f WHERE f.m=1)"
                + " SELECT f.x,COUNT(*) FROM q f", "1 1");
        Integer[][] loop = {{1, 1}};
        due(loop, WALK + CYCLE + marked, "1 0; 1 1", "3: 1 1 0");
    }

    private static void nulls() {
        Integer[][] none = {{0, 0}};
        due(none, "WITH RECURSIVE p(x,y) AS (SELECT NULL,0 UNION ALL SELECT NULL,r.y+1 FROM p r WHERE r.y<2)"
                + " CYCLE x SET m SELECT f.x,f.y,f.m FROM p f", "NULL 0 0; NULL 1 0; NULL 2 0", "4: 1 1 1 0");
        // Two rows that differ in nothing, NULL in their trails: with UNION the second one is there already.
        due(new Integer[][] {{1, null}, {1, null}}, WALK + DEPTH + "SELECT f.x FROM p f", "NULL; 1", "3: 1 1 0");
        due(new Integer[][] {{1, null}, {1, null}}, WALK.replace("UNION", "UNION ALL") + DEPTH + ORDERED,
                "1; NULL; NULL", "3: 1 2 0");
    }

    private static void otherColumn() {
        Integer[][] edges = {{1, 2}, {2, 1}};
        String walk = "WITH RECURSIVE p(x,y) AS (SELECT 1,0 UNION ALL SELECT e.b,r.y+1 FROM t0 e,p r WHERE e.a=r.x AND"
                + " r.y<4) ";
        due(edges, walk + "CYCLE y SET m SELECT f.x,f.y,f.m FROM p f ORDER BY f.y",
                "1 0 0; 2 1 0; 1 2 0; 2 3 0; 1 4 0", "6: 1 1 1 1 1 0");
        due(edges, walk + "CYCLE x SET m SELECT f.x,f.y,f.m FROM p f ORDER BY f.y", "1 0 0; 2 1 0; 1 2 1",
                "4: 1 1 1 0");
        due(edges, walk + "SEARCH BREADTH FIRST BY y SET k SELECT f.x FROM p f ORDER BY f.k", "1; 2; 1; 2; 1",
                "6: 1 1 1 1 1 0");
        // A later selection that does not name the part begins a trail anew.
        due(edges, "WITH RECURSIVE p(x) AS (SELECT 1 UNION SELECT r.x+1 FROM p r WHERE r.x<3 UNION SELECT 2)"
                + " SEARCH DEPTH FIRST BY x SET k SELECT f.x FROM p f ORDER BY f.k", "1; 2; 3; 2; 3",
                "4: 2 2 1 0");
    }

    private static void bothTrails() {
        // The cells and one trail are equal, the other trail is not: both rows come.
        String walk = "WITH RECURSIVE p(x,y) AS (SELECT 1,0 UNION SELECT 2,0 UNION SELECT 7,1 FROM p r WHERE r.y=0) ";
        Integer[][] none = {{0, 0}};
        due(none, walk + "SEARCH DEPTH FIRST BY y SET k SELECT f.x FROM p f", "1; 2; 7", "3: 2 1 0");
        due(none, walk + "SEARCH DEPTH FIRST BY x SET k SELECT f.x FROM p f", "1; 2; 7; 7", "3: 2 2 0");
        due(none, walk + "SEARCH DEPTH FIRST BY y SET k CYCLE x SET m SELECT f.x FROM p f", "1; 2; 7; 7", "3: 2 2 0");
        due(none, walk + "SEARCH DEPTH FIRST BY x SET k CYCLE y SET m SELECT f.x FROM p f", "1; 2; 7; 7", "3: 2 2 0");
        due(none, walk + "SEARCH BREADTH FIRST BY x SET k CYCLE y SET m SELECT f.x FROM p f", "1; 2; 7", "3: 2 1 0");
        due(none, walk + "SEARCH BREADTH FIRST BY y SET k CYCLE x SET m SELECT f.x FROM p f", "1; 2; 7; 7",
                "3: 2 2 0");
    }

    private static void sorting() {
        Integer[][] tree = {{1, 2}, {2, 3}, {1, 4}};
        due(tree, WALK + DEPTH + "SELECT f.x,g.x FROM p f,p g WHERE f.x+g.x=5 ORDER BY g.k,f.k", "4 1; 3 2; 2 3; 1 4",
                "4: 1 2 1 0");
        due(tree, WALK + DEPTH + "SELECT 9-f.x,g.a FROM p f,t0 g ORDER BY g.a,f.k",
                "8 1; 8 1; 7 1; 7 1; 6 1; 6 1; 5 1; 5 1; 8 2; 7 2; 6 2; 5 2", "4: 1 2 1 0");
        due(tree, WALK + BREADTH + "SELECT 9-f.x FROM p f ORDER BY f.k", "8; 7; 5; 6", "4: 1 2 1 0");
    }
}
