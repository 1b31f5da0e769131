/** Promise 9 and what Terms say of SEARCH and CYCLE: trails, MARK and rows that are equal but for their trails. */
final class EdgeTrailTest {
    private static final int MOST = Integer.MAX_VALUE;
    private static final int LEAST = Integer.MIN_VALUE;
    private static final String WALK = "WITH RECURSIVE p(x) AS (SELECT 1 UNION SELECT e.b FROM p r,t0 e"
            + " WHERE e.a=r.x) ";
    private static final String DEPTH = "SEARCH DEPTH FIRST BY x SET k ";
    private static final String BREADTH = "SEARCH BREADTH FIRST BY x SET k ";
    private static final String CYCLE = "CYCLE x SET m ";
    private static final String BY_TRAIL = "SELECT f.x FROM p f ORDER BY f.k";
    private static final String MARKED = "SELECT f.x,f.m FROM p f";
    private static final Integer[][] NONE = {{0, 0}};

    private EdgeTrailTest() {
    }

    public static void main(String[] args) {
        trailOfOne();
        trailWithItsOwnBehind();
        depthFromTheFirstOn();
        depthThatEndsBefore();
        depthWithNull();
        depthOfEqualTrails();
        breadthByLength();
        breadthIsNoMoreThanLengthAndValue();
        columnBehindBy();
        columnBehindCycle();
        markOfTheFirst();
        markStandsAnywhere();
        markOfItsOwnTrail();
        markOfNull();
        markIsNotThere();
        markIsThereForOthers();
        markInItsOwnSelections();
        equalButForTrails();
        equalWithTrails();
        rootsThatDiffer();
        lengthsThatDiffer();
        bothTrailsAtOnce();
        longestTrail();
        fullOfTrails();
        trailsOfTwoSources();
        Kit.end();
    }

    private static void due(Integer[][] edges, String text, String answer, String rounds) {
        FixpointEngine e = Kit.engine(edges);
        Kit.dueAnswer(e, text, answer);
        if (!rounds.isEmpty()) {
            Kit.due("rounds of " + text, Kit.rounds(e, 0), rounds);
        }
    }

    private static String all(String text) {
        return text.replace("UNION", "UNION ALL");
    }

    /** "a row of a selection that does not name the part itself has the trail (v)", in the text wherever it stands. */
    private static void trailOfOne() {
        String text = "WITH RECURSIVE p(x) AS (SELECT 5 UNION SELECT r.x+1 FROM p r WHERE r.x=3 UNION SELECT 3 UNION"
                + " SELECT e.b FROM t0 e) " + DEPTH + "SELECT 9-f.x FROM p f ORDER BY f.k";
        // The trails are (5), (3), (4) and behind (3) (3, 4).
        due(new Integer[][] {{0, 4}}, text, "6; 5; 5; 4", "3: 3 1 0");
        due(new Integer[][] {{0, 4}}, text.replace("DEPTH", "BREADTH"), "6; 5; 4; 5", "3: 3 1 0");
        due(new Integer[][] {{0, 4}}, all(text), "6; 5; 5; 4", "3: 3 1 0");
    }

    /** "a row that comes of a row of the part has that one's trail with its own v behind." */
    private static void trailWithItsOwnBehind() {
        Integer[][] tree = {{1, 7}, {1, 2}, {2, 9}, {2, 3}, {7, 4}, {3, 8}};
        due(tree, WALK + DEPTH + BY_TRAIL, "1; 2; 3; 8; 9; 7; 4", "5: 1 2 3 1 0");
        due(tree, WALK + BREADTH + BY_TRAIL, "1; 2; 7; 3; 4; 9; 8", "5: 1 2 3 1 0");
        due(tree, all(WALK) + DEPTH + BY_TRAIL, "1; 2; 3; 8; 9; 7; 4", "5: 1 2 3 1 0");
        // The part may be any of the sources.
        String last = WALK.replace("p r,t0 e", "t0 e,t0 d,p r").replace("e.a=r.x", "e.a=r.x AND d.a=3");
        due(tree, last + DEPTH + BY_TRAIL, "1; 2; 3; 8; 9; 7; 4", "5: 1 2 3 1 0");
    }

    /** "with DEPTH by their values from the first on". */
    private static void depthFromTheFirstOn() {
        String two = "WITH RECURSIVE p(x) AS (SELECT e.a FROM t0 e WHERE e.b=0 UNION SELECT e.b FROM p r,t0 e"
                + " WHERE e.a=r.x AND e.b>0) " + DEPTH;
        // Only the first values differ, then only the last ones; what sorts the items would sort otherwise.
        due(new Integer[][] {{5, 0}, {3, 0}}, two + "SELECT 9-f.x FROM p f ORDER BY f.k", "6; 4", "2: 2 0");
        due(new Integer[][] {{5, 0}, {3, 0}, {5, 1}, {3, 8}}, two + BY_TRAIL, "3; 8; 5; 1", "3: 2 2 0");
        due(new Integer[][] {{3, 0}, {5, 0}, {5, 1}, {3, 8}}, two + BY_TRAIL, "3; 8; 5; 1", "3: 2 2 0");
        due(new Integer[][] {{5, 0}, {3, 0}, {5, 7}, {3, 7}}, two + "SELECT f.x,9-f.x FROM p f ORDER BY f.k",
                "3 6; 7 2; 5 4; 7 2", "3: 2 2 0");
        due(new Integer[][] {{LEAST, 0}, {MOST, 0}, {-1, 0}}, two + "SELECT f.x FROM p f ORDER BY f.k",
                "-2147483648; -1; 2147483647", "2: 3 0");
    }

    /** "a trail that ends before one that goes on". */
    private static void depthThatEndsBefore() {
        Integer[][] line = {{1, 0}, {0, -1}, {-1, LEAST}};
        due(line, WALK + DEPTH + BY_TRAIL, "1; 0; -1; -2147483648", "5: 1 1 1 1 0");
        due(line, WALK + BREADTH + BY_TRAIL, "1; 0; -1; -2147483648", "5: 1 1 1 1 0");
        due(new Integer[][] {{1, null}}, WALK + DEPTH + BY_TRAIL, "1; NULL", "3: 1 1 0");
        due(new Integer[][] {{1, 3}, {3, 1}, {1, 2}, {2, 4}}, WALK + DEPTH + CYCLE + MARKED + " ORDER BY f.k",
                "1 0; 2 0; 4 0; 3 0; 1 1", "4: 1 2 2 0");
    }

    /** "NULL is before all ints", in trails, too. */
    private static void depthWithNull() {
        Integer[][] edges = {{1, 0}, {1, LEAST}, {1, null}, {1, MOST}};
        String four = "1; NULL; -2147483648; 0; 2147483647";
        due(edges, WALK + DEPTH + BY_TRAIL, four, "3: 1 4 0");
        due(edges, WALK + BREADTH + BY_TRAIL, four, "3: 1 4 0");
        // NULL inside a trail, with an int behind it.
        String text = "WITH RECURSIVE p(x,y) AS (SELECT 0,0 UNION SELECT e.a,1 FROM p r,t0 e WHERE r.y=0 UNION"
                + " SELECT r.y+1-r.y,2 FROM p r WHERE r.y=1) " + DEPTH + "SELECT f.y,f.x FROM p f ORDER BY f.k";
        due(new Integer[][] {{LEAST}, {null}}, text, "0 0; 1 NULL; 2 1; 1 -2147483648; 2 1", "4: 1 2 2 0");
    }

    /** Where trails are equal, what stands behind them in ORDER BY sorts, then the items. */
    private static void depthOfEqualTrails() {
        String text = "WITH RECURSIVE p(x,y) AS (SELECT 1,0 UNION SELECT 1,e.b FROM p r,t0 e WHERE r.y=0) ";
        Integer[][] edges = {{0, 3}, {0, 1}, {0, 2}};
        due(edges, text + DEPTH + "SELECT f.y FROM p f ORDER BY f.k", "0; 1; 2; 3", "3: 1 3 0");
        due(edges, text + DEPTH + "SELECT 9-f.y FROM p f ORDER BY f.k,f.y", "9; 8; 7; 6", "3: 1 3 0");
        due(edges, text + DEPTH + "SELECT 9-f.y FROM p f ORDER BY f.k", "9; 6; 7; 8", "3: 1 3 0");
        due(edges, text + DEPTH + "SELECT 9-f.y FROM p f ORDER BY f.y,f.k", "9; 8; 7; 6", "3: 1 3 0");
        due(edges, text + BREADTH + "SELECT 9-f.y FROM p f ORDER BY f.k", "9; 6; 7; 8", "3: 1 3 0");
    }

    /** "with BREADTH by length, then by v." */
    private static void breadthByLength() {
        Integer[][] edges = {{1, 9}, {1, 8}, {9, 2}, {8, 3}, {2, LEAST}, {3, null}};
        due(edges, WALK + BREADTH + BY_TRAIL, "1; 8; 9; 2; 3; NULL; -2147483648", "5: 1 2 2 2 0");
        due(edges, WALK + BREADTH + "SELECT 0-9-f.x FROM p f WHERE f.x>0 ORDER BY f.k", "-10; -17; -18; -11; -12", "");
    }

    /** "With SEARCH BREADTH the trail is only how long it is, and v." */
    private static void breadthIsNoMoreThanLengthAndValue() {
        Integer[][] diamond = {{1, 2}, {1, 3}, {2, 4}, {3, 4}};
        due(diamond, WALK + BREADTH + BY_TRAIL, "1; 2; 3; 4", "4: 1 2 1 0");
        due(diamond, WALK + DEPTH + BY_TRAIL, "1; 2; 4; 3; 4", "4: 1 2 2 0");
        due(diamond, all(WALK) + BREADTH + BY_TRAIL, "1; 2; 3; 4; 4", "4: 1 2 2 0");
        // What came before in the trail does not sort: the items do.
        String text = all(WALK).replace("p(x)", "p(x,y)").replace("SELECT 1", "SELECT 1,0").replace("e.b", "e.b,0-r.x");
        due(diamond, text + BREADTH + "SELECT f.x,f.y FROM p f ORDER BY f.k", "1 0; 2 -1; 3 -1; 4 -3; 4 -2",
                "4: 1 2 2 0");
        due(diamond, text + DEPTH + "SELECT f.x,f.y FROM p f ORDER BY f.k", "1 0; 2 -1; 4 -2; 3 -1; 4 -3",
                "4: 1 2 2 0");
    }

    /** "v its cell of the column behind BY": any of three. */
    private static void columnBehindBy() {
        String part = "WITH RECURSIVE p(x,y,z) AS (SELECT 0,0,0 UNION SELECT e.a,e.b,e.c FROM p r,t0 e WHERE r.x=0)"
                + " SEARCH ";
        Integer[][] rows = {{1, 3, 2}, {2, 1, 3}, {3, 2, 1}};
        String[] names = {"x", "y", "z"};
        String[] dues = {"0; 1; 2; 3", "0; 2; 3; 1", "0; 3; 1; 2"};
        for (int i = 0; i < 3; i++) {
            for (String how : new String[] {"DEPTH", "BREADTH"}) {
                due(rows, part + how + " FIRST BY " + names[i] + " SET k SELECT f.x FROM p f ORDER BY f.k", dues[i],
                        "3: 1 3 0");
            }
        }
    }

    /** "v its cell of the column .. behind CYCLE": any of three. */
    private static void columnBehindCycle() {
        Integer[][] ring = {{1, 2}, {2, 1}};
        String[] names = {"x", "y", "z"};
        for (int at = 0; at < 3; at++) {
            String[] first = {"8", "8", "8"};
            String[] next = {"r.#+1", "r.#+1", "r.#+1"};
            for (int i = 0; i < 3; i++) {
                next[i] = next[i].replace("#", names[i]);
            }
            first[at] = "1";
            next[at] = "e.b";
            String part = "WITH RECURSIVE p(x,y,z) AS (SELECT " + String.join(",", first) + " UNION SELECT "
                    + String.join(",", next) + " FROM p r,t0 e WHERE e.a=r." + names[at] + ") ";
            String own = "SELECT f." + names[at] + ",f.m FROM p f";
            due(ring, part + "CYCLE " + names[at] + " SET m " + own, "1 0; 1 1; 2 0", "4: 1 1 1 0");
            due(ring, all(part) + "CYCLE " + names[at] + " SET m " + own, "1 0; 1 1; 2 0", "4: 1 1 1 0");
            // By another column nothing comes again: the rounds never end.
            due(ring, part + "CYCLE " + names[(at + 1) % 3] + " SET m " + own, "UnsupportedOperationException", "");
        }
    }

    /** "MARK is 1 if v .. stands in the trail that it is put behind, else 0": a first row is put behind none. */
    private static void markOfTheFirst() {
        due(NONE, "WITH RECURSIVE p(x) AS (SELECT 1 UNION ALL SELECT 1 UNION ALL SELECT r.x FROM p r WHERE r.x=2) "
                + CYCLE + MARKED, "1 0; 1 0", "2: 2 0");
        due(NONE, "WITH RECURSIVE p(x) AS (SELECT 1 UNION ALL SELECT r.x FROM p r) " + CYCLE + MARKED, "1 0; 1 1",
                "3: 1 1 0");
        due(NONE, "WITH RECURSIVE p(x) AS (SELECT 1 UNION SELECT r.x+1 FROM p r WHERE r.x<3) " + CYCLE + MARKED,
                "1 0; 2 0; 3 0", "4: 1 1 1 0");
    }

    /** The value may stand at the beginning, in the middle or at the end of the trail. */
    private static void markStandsAnywhere() {
        for (int back = 1; back <= 4; back++) {
            Integer[][] line = {{1, 2}, {2, 3}, {3, 4}, {4, back}};
            due(line, WALK + CYCLE + MARKED + " ORDER BY f.m,f.x", "1 0; 2 0; 3 0; 4 0; " + back + " 1",
                    "6: 1 1 1 1 1 0");
        }
        due(new Integer[][] {{1, 2}, {2, 3}, {3, 4}, {4, 5}}, WALK + CYCLE + MARKED, "1 0; 2 0; 3 0; 4 0; 5 0",
                "6: 1 1 1 1 1 0");
    }

    /** A value that stands in another row's trail alone marks nothing. */
    private static void markOfItsOwnTrail() {
        Integer[][] diamond = {{1, 2}, {1, 3}, {2, 4}, {3, 4}, {3, 2}};
        due(diamond, WALK + CYCLE + MARKED, "1 0; 2 0; 2 0; 3 0; 4 0; 4 0; 4 0", "5: 1 2 3 1 0");
        String two = "WITH RECURSIVE p(x) AS (SELECT 1 UNION SELECT 2 UNION SELECT r.x+1 FROM p r WHERE r.x<3) ";
        due(NONE, two + CYCLE + MARKED, "1 0; 2 0; 2 0; 3 0; 3 0", "4: 2 2 1 0");
    }

    /** "MARK is 1 if v is not NULL". */
    private static void markOfNull() {
        String text = "WITH RECURSIVE p(x,y) AS (SELECT NULL,0 UNION SELECT NULL,r.y+1 FROM p r WHERE r.y<3) " + CYCLE
                + "SELECT f.x,f.y,f.m FROM p f";
        due(NONE, text, "NULL 0 0; NULL 1 0; NULL 2 0; NULL 3 0", "5: 1 1 1 1 0");
        due(NONE, text.replace("NULL", "0"), "0 0 0; 0 1 1", "3: 1 1 0");
        // An int again, with NULL between.
        Integer[][] edges = {{1, null}};
        due(edges, "WITH RECURSIVE p(x,y) AS (SELECT 1,0 UNION SELECT e.b,1 FROM p r,t0 e WHERE r.y=0 UNION"
                + " SELECT 1,2 FROM p r"
                + " WHERE r.y=1) " + CYCLE + "SELECT f.y,f.x,f.m FROM p f", "0 1 0; 1 NULL 0; 2 1 1", "4: 1 1 1 0");
    }

    /** "rows with MARK 1 are not there for the part's own selections." */
    private static void markIsNotThere() {
        Integer[][] ring = {{1, 2}, {2, 1}};
        due(ring, WALK + CYCLE + MARKED, "1 0; 1 1; 2 0", "4: 1 1 1 0");
        due(ring, all(WALK) + CYCLE + MARKED, "1 0; 1 1; 2 0", "4: 1 1 1 0");
        due(ring, WALK + "SELECT f.x FROM p f", "1; 2", "3: 1 1 0");
        due(ring, WALK + DEPTH + "SELECT f.x FROM p f", "UnsupportedOperationException", "");
        due(ring, WALK + BREADTH + "SELECT f.x FROM p f", "UnsupportedOperationException", "");
        // Of two rows that came in a round just the one without MARK goes on.
        due(new Integer[][] {{1, 1}, {1, 2}, {2, 3}}, WALK + CYCLE + MARKED, "1 0; 1 1; 2 0; 3 0", "4: 1 2 1 0");
    }

    private static void markIsThereForOthers() {
        Integer[][] ring = {{1, 2}, {2, 1}};
        String part = WALK.trim() + CYCLE.trim();
        due(ring, part + " SELECT COUNT(*),SUM(f.m),MAX(f.m) FROM p f", "3 1 1", "");
        due(ring, part + " SELECT f.x FROM p f WHERE f.m=1", "1", "");
        due(ring, part + " SELECT f.x,f.m FROM p f ORDER BY f.m", "1 0; 2 0; 1 1", "");
        due(ring, part + " SELECT 7 WHERE NOT EXISTS(SELECT 1 FROM p f WHERE f.m=1)", "", "");
        due(ring, part + " SELECT 7 WHERE NOT EXISTS(SELECT 1 FROM p f WHERE f.m=2)", "7", "");
        due(ring, part + ",q(x) AS (SELECT f.x FROM p f UNION ALL SELECT r.x+8 FROM q r WHERE r.x<3) SELECT f.x"
                + " FROM q f",
                "1; 1; 2; 9; 9; 10", "");
        FixpointEngine e = Kit.engine(ring);
        Kit.dueAnswer(e, part + " SELECT 1", "1");
        Kit.due("they are rows of the part", e.size(0), 3);
    }

    /** The part's own selections may ask for MARK: of the rows that are there it is 0. */
    private static void markInItsOwnSelections() {
        Integer[][] ring = {{1, 2}, {2, 1}};
        due(ring, WALK.replace("e.a=r.x", "e.a=r.x AND r.m=0") + CYCLE + MARKED, "1 0; 1 1; 2 0", "4: 1 1 1 0");
        due(ring, WALK.replace("e.a=r.x", "e.a=r.x AND r.m=1") + CYCLE + MARKED, "1 0", "2: 1 0");
        due(ring, WALK.replace("SELECT e.b", "SELECT e.b+r.m") + CYCLE + MARKED, "1 0; 1 1; 2 0", "4: 1 1 1 0");
    }

    /** "only if it is not there yet (all cells equal .. and the trails below, too)". */
    private static void equalButForTrails() {
        String text = "WITH RECURSIVE p(x,y) AS (SELECT 1,0 UNION SELECT 2,0 UNION SELECT 7,1 FROM p r WHERE r.y=0) ";
        due(NONE, text + "SELECT f.x FROM p f", "1; 2; 7", "3: 2 1 0");
        due(NONE, text + DEPTH + "SELECT f.x FROM p f", "1; 2; 7; 7", "3: 2 2 0");
        due(NONE, text + CYCLE + "SELECT f.x FROM p f", "1; 2; 7; 7", "3: 2 2 0");
        due(NONE, text + BREADTH + "SELECT f.x FROM p f", "1; 2; 7", "3: 2 1 0");
        due(NONE, text + BREADTH + CYCLE + "SELECT f.x FROM p f", "1; 2; 7; 7", "3: 2 2 0");
        due(NONE, text + BREADTH + "CYCLE y SET m SELECT f.x FROM p f", "1; 2; 7", "3: 2 1 0");
    }

    private static void equalWithTrails() {
        String text = "WITH RECURSIVE p(x) AS (SELECT 1 UNION SELECT 1 UNION SELECT r.x+1 FROM p r,t0 e WHERE r.x<3) ";
        Integer[][] twice = {{0, 0}, {0, 0}};
        for (String tail : new String[] {"", DEPTH, BREADTH, CYCLE, DEPTH + CYCLE, BREADTH + CYCLE}) {
            due(twice, text + tail + "SELECT f.x FROM p f", "1; 2; 3", "4: 1 1 1 0");
        }
        due(twice, all(text).replace("UNION ALL SELECT 1 ", "") + DEPTH + "SELECT f.x FROM p f", "1; 2; 2; 3; 3; 3; 3",
                "4: 1 2 4 0");
        // NULL is equal to NULL in trails.
        due(new Integer[][] {{1, null}, {1, null}}, WALK + DEPTH + "SELECT f.x FROM p f", "NULL; 1", "3: 1 1 0");
        due(new Integer[][] {{1, null}, {1, null}}, WALK + CYCLE + "SELECT f.x FROM p f", "NULL; 1", "3: 1 1 0");
    }

    /** The rows are equal but for the beginnings of their trails; the later row's comes of the first row. */
    private static void rootsThatDiffer() {
        String text = "WITH RECURSIVE p(x) AS (SELECT 1 UNION SELECT 2 UNION SELECT 7 FROM p r WHERE r.x=2 UNION"
                + " SELECT 7 FROM p r WHERE r.x=1) ";
        due(NONE, text + DEPTH + BY_TRAIL, "1; 7; 2; 7", "3: 2 2 0");
        due(NONE, text + CYCLE + MARKED, "1 0; 2 0; 7 0; 7 0", "3: 2 2 0");
        due(NONE, text + BREADTH + BY_TRAIL, "1; 2; 7", "3: 2 1 0");
    }

    private static void lengthsThatDiffer() {
        Integer[][] ways = {{1, 2}, {2, 3}, {1, 3}};
        due(ways, WALK + "SELECT f.x FROM p f", "1; 2; 3", "3: 1 2 0");
        for (String tail : new String[] {DEPTH, BREADTH, CYCLE, DEPTH + CYCLE, BREADTH + CYCLE}) {
            due(ways, WALK + tail + "SELECT f.x FROM p f", "1; 2; 3; 3", "4: 1 2 1 0");
        }
    }

    /** "each row of such a part has a trail for each", by columns of their own. */
    private static void bothTrailsAtOnce() {
        String text = "WITH RECURSIVE p(x,y) AS (SELECT 1,9 UNION SELECT e.b,r.y-1 FROM p r,t0 e WHERE e.a=r.x) ";
        Integer[][] ring = {{1, 3}, {3, 1}, {1, 2}};
        due(ring, text + "SEARCH DEPTH FIRST BY y SET k CYCLE x SET m SELECT f.y,f.x,f.m FROM p f ORDER BY f.k",
                "9 1 0; 8 2 0; 8 3 0; 7 1 1", "4: 1 2 1 0");
        due(ring, text + "SEARCH DEPTH FIRST BY x SET k CYCLE x SET m SELECT f.y,f.x,f.m FROM p f ORDER BY f.k",
                "9 1 0; 8 2 0; 8 3 0; 7 1 1", "4: 1 2 1 0");
        due(ring, text + "SEARCH BREADTH FIRST BY y SET k CYCLE x SET m SELECT f.y,f.x,f.m FROM p f ORDER BY f.k,f.m",
                "9 1 0; 8 2 0; 8 3 0; 7 1 1", "4: 1 2 1 0");
        due(ring, text + "SEARCH BREADTH FIRST BY x SET k CYCLE x SET m SELECT f.x,f.m FROM p f ORDER BY f.m,f.k",
                "1 0; 2 0; 3 0; 1 1", "4: 1 2 1 0");
    }

    /** A trail is at most as long as there are rounds with rows: twenty-nine. */
    private static void longestTrail() {
        String text = "WITH RECURSIVE p(x) AS (SELECT 1 UNION SELECT r.x+1 FROM p r WHERE r.x<29) ";
        for (String tail : new String[] {DEPTH, BREADTH, DEPTH + CYCLE}) {
            due(NONE, text + tail + "SELECT 30-f.x FROM p f WHERE f.x>26 ORDER BY f.k", "3; 2; 1",
                    "30:" + " 1".repeat(29) + " 0");
        }
        due(NONE, text.replace("<29", "<30") + DEPTH + "SELECT 1", "UnsupportedOperationException", "");
        // The last value of it stands in the first place of the trail.
        String back = text.replace("SELECT r.x+1 FROM p r WHERE r.x<29",
                "SELECT r.x+1 FROM p r WHERE r.x<28 UNION SELECT 1 FROM p r WHERE r.x=28");
        due(NONE, back + CYCLE + "SELECT f.x FROM p f WHERE f.m=1", "1", "30:" + " 1".repeat(29) + " 0");
    }

    /** Forty-eight rows with trails; one that is there already can be looked for still, one more can't come. */
    private static void fullOfTrails() {
        String text = "WITH RECURSIVE p(x) AS (SELECT f.a+g.a FROM t0 f,t1 g UNION SELECT # UNION SELECT r.x FROM p r WHERE"
                + " r.x>99) ";
        for (String tail : new String[] {DEPTH, BREADTH, CYCLE, DEPTH + CYCLE}) {
            FixpointEngine e = Kit.columns(1, 1);
            for (int i = 0; i < 16; i++) {
                e.row(0, i, 0, 0, 0);
            }
            for (int i = 0; i < 3; i++) {
                e.row(1, i * 16, 0, 0, 0);
            }
            Kit.dueRun(e, text.replace("#", "47") + tail + "SELECT 1 WHERE 1=2", 2, 48, "");
            Kit.due("all rows there can be", Kit.rounds(e, 0), "2: 48 0");
            Kit.dueRun(e, text.replace("#", "48") + tail + "SELECT 1 WHERE 1=2", 2, 48, "UnsupportedOperationException");
            Kit.dueRun(e, text.replace("#", "47") + tail + "SELECT 1", 2, 48, "UnsupportedOperationException");
        }
    }

    private static void trailsOfTwoSources() {
        Integer[][] tree = {{1, 3}, {1, 2}, {2, 4}};
        due(tree, WALK + DEPTH + "SELECT f.x,g.x FROM p f,p g WHERE f.x<g.x ORDER BY g.k,f.k",
                "1 2; 1 4; 2 4; 3 4; 1 3; 2 3", "");
        String both = WALK.trim() + DEPTH.trim() + ",q(y) AS (SELECT 5 UNION SELECT r.y-1 FROM q r WHERE r.y>3)"
                + " SEARCH BREADTH FIRST BY y SET l SELECT f.x,g.y FROM p f,q g WHERE f.x+g.y=6 ORDER BY ";
        due(tree, both + "f.k", "1 5; 2 4; 3 3", "");
        due(tree, both + "g.l", "1 5; 2 4; 3 3", "");
        due(tree, both.replace("f.x+g.y=6", "f.x+g.y=7") + "g.l,f.k", "2 5; 3 4; 4 3", "");
        due(tree, both.replace("f.x+g.y=6", "f.x+g.y=7") + "f.k,g.l", "2 5; 4 3; 3 4", "");
    }
}
