/** Promises 6 and 7, faults 2 to 8: each kind with its place, the same thing just allowed, and which fault is told. */
final class EdgeFaultTest {
    /** A part with each fault from 2 on, its place marked; beside others it has no other fault. */
    private static final String[] FAULTY = {
        "a(x) AS (SELECT ^f.z)",
        "b(x) AS (^SELECT 1,2)",
        "^c(x) AS (SELECT 1 UNION SELECT 2 UNION ALL SELECT 3)",
        "d(x) AS (SELECT 1 UNION SELECT MAX(f.x) FROM ^d f)",
        "^e(x) AS (SELECT f.x FROM e f)",
        "^g(x) AS (SELECT 1 UNION ALL SELECT 2 FROM g f,g h)",
        "^h(x) AS (SELECT 1) CYCLE x SET m",
    };
    private static final String LOOP = "WITH RECURSIVE p(x,y,z) AS (SELECT 1,2,3 UNION SELECT r.x,r.y,r.z FROM p r) ";
    private static final String[] GATHERS = {"COUNT(*)", "SUM(f.x)", "MIN(f.x)", "MAX(f.x)"};

    private EdgeFaultTest() {
    }

    public static void main(String[] args) {
        partNamedTwice();
        columnNamedTwice();
        aliasKnownAlready();
        aliasKnownInItsCondition();
        sourceThatMeansNothing();
        sourceOfALaterPart();
        partBeforeTable();
        aliasNotKnown();
        columnNotKnown();
        columnOfNothing();
        aliasOfTheFirst();
        trailInOrderByAlone();
        markIsAColumn();
        nameBehindBy();
        nameBehindCycle();
        orderByOfGroups();
        widths();
        mixed();
        barred();
        barredByNotExists();
        anchor();
        linearAlone();
        linearTwice();
        searchOfNoRecursion();
        lowestNumber();
        lowestPlace();
        noQueryThen();
        faultStays();
        tablesThereAre();
        Kit.end();
    }

    /** An object is used for at most 512 calls: a new one for each text, with t0 of two columns and t1 of one. */
    private static void fine(int parts, String text) {
        Kit.dueFine(Kit.columns(2, 1), parts, text);
    }

    private static void fault(int number, String marked) {
        Kit.dueFault(Kit.columns(2, 1), number, marked);
    }

    private static String part(String name) {
        return name + "(x) AS (SELECT 1)";
    }

    /** "a part's name that a part before has". */
    private static void partNamedTwice() {
        fault(2, "WITH " + part("p") + "," + part("^p") + " SELECT 1");
        fault(2, "WITH " + part("p") + "," + part("q") + "," + part("^p") + " SELECT 1");
        fault(2, "WITH " + part("p") + "," + part("q") + "," + part("r") + "," + part("^q") + " SELECT 1");
        fault(2, "WITH " + part("p") + "," + part("^p") + "," + part("q") + "," + part("q") + " SELECT 1");
        fault(2, "WITH " + part("p") + "," + part("^p") + "," + part("p") + "," + part("p") + " SELECT 1");
        fine(4, "WITH " + part("p") + "," + part("p0") + "," + part("pp") + "," + part("x") + " SELECT 1");
        fine(1, "WITH x(x) AS (SELECT x.a FROM t0 x) SELECT x.x FROM x x");
    }

    /** "a column's, MARK's or TRAIL's name that a column, MARK or TRAIL of the same part before has". */
    private static void columnNamedTwice() {
        fault(2, "WITH p(x,^x) AS (SELECT 1,2) SELECT 1");
        fault(2, "WITH p(x,^x,x) AS (SELECT 1,2,3) SELECT 1");
        fault(2, "WITH p(x,y,^x) AS (SELECT 1,2,3) SELECT 1");
        fault(2, "WITH p(x,y,^y) AS (SELECT 1,2,3) SELECT 1");
        for (String name : new String[] {"x", "y", "z"}) {
            fault(2, LOOP + "SEARCH DEPTH FIRST BY x SET ^" + name + " SELECT 1");
            fault(2, LOOP + "SEARCH BREADTH FIRST BY x SET ^" + name + " SELECT 1");
            fault(2, LOOP + "CYCLE x SET ^" + name + " SELECT 1");
            fault(2, LOOP + "SEARCH DEPTH FIRST BY x SET k CYCLE x SET ^" + name + " SELECT 1");
            fault(2, LOOP + "SEARCH DEPTH FIRST BY x SET ^" + name + " CYCLE x SET " + name + " SELECT 1");
        }
        fault(2, LOOP + "SEARCH DEPTH FIRST BY x SET k CYCLE x SET ^k SELECT 1");
        fine(1, LOOP + "SEARCH DEPTH FIRST BY x SET k CYCLE x SET m SELECT 1");
        // Of another part it may be, and the part's own name is none of them.
        fine(2, LOOP + "SEARCH DEPTH FIRST BY x SET k CYCLE x SET m,q(x,k,m) AS (SELECT 1,2,3) SELECT 1");
        fine(1, LOOP + "SEARCH DEPTH FIRST BY x SET p CYCLE x SET r SELECT 1");
    }

    /** "an alias that is known already (at the second one)". */
    private static void aliasKnownAlready() {
        fault(2, "SELECT 1 FROM t0 f,t0 ^f");
        fault(2, "SELECT 1 FROM t0 f,t0 ^f,t0 f");
        fault(2, "SELECT 1 FROM t0 f,t0 g,t0 ^f");
        fault(2, "SELECT 1 FROM t0 f,t0 g,t0 ^g");
        fault(2, "SELECT 1 FROM t0 f,t1 ^f");
        for (String alias : new String[] {"f", "g", "h"}) {
            fault(2, "SELECT 1 FROM t0 f,t0 g,t0 h WHERE NOT EXISTS(SELECT 1 FROM t1 ^" + alias + ")");
            fault(2, "SELECT 1 FROM t0 f,t0 g,t0 h WHERE 1=1 AND NOT EXISTS(SELECT 1 FROM t1 i) AND NOT EXISTS("
                    + "SELECT 1 FROM t1 ^" + alias + ")");
        }
        fine(0, "SELECT 1 FROM t0 f,t0 g,t0 h WHERE NOT EXISTS(SELECT 1 FROM t1 i)");
        fine(0, "SELECT 1 FROM t0 t0,t0 t1");
    }

    /** "An alias is known in its selection ..; that of a NOT EXISTS in this condition alone". */
    private static void aliasKnownInItsCondition() {
        fine(0, "SELECT 1 WHERE NOT EXISTS(SELECT 1 FROM t0 f) AND NOT EXISTS(SELECT 1 FROM t0 f)");
        fine(1, "WITH p(x) AS (SELECT f.a FROM t0 f UNION SELECT f.b FROM t0 f) SELECT f.x FROM p f");
        fine(1, "WITH p(x) AS (SELECT 1 WHERE NOT EXISTS(SELECT 1 FROM t0 f)) SELECT f.x FROM p f");
        String inside = "NOT EXISTS(SELECT 1 FROM t1 g WHERE g.a=1)";
        fine(0, "SELECT f.a FROM t0 f WHERE " + inside + " ORDER BY f.a");
        fine(0, "SELECT f.a FROM t0 f WHERE NOT EXISTS(SELECT 1 FROM t1 g WHERE f.b=g.a AND f.a IS NULL)");
        fault(2, "SELECT ^g.a FROM t0 f WHERE " + inside);
        fault(2, "SELECT f.a FROM t0 f WHERE ^g.a=1 AND " + inside);
        fault(2, "SELECT f.a FROM t0 f WHERE " + inside + " AND 1=^g.a");
        fault(2, "SELECT f.a FROM t0 f WHERE " + inside + " AND ^g.a IS NULL");
        fault(2, "SELECT f.a FROM t0 f WHERE " + inside + " AND NOT EXISTS(SELECT 1 FROM t1 h WHERE h.a=^g.a)");
        fault(2, "SELECT f.a FROM t0 f WHERE NOT EXISTS(SELECT 1 FROM t1 h WHERE ^g.a=h.a) AND " + inside);
        fault(2, "SELECT f.a FROM t0 f WHERE " + inside + " ORDER BY ^g.a");
    }

    /** "a source's name that means nothing". */
    private static void sourceThatMeansNothing() {
        fault(2, "SELECT 1 FROM ^p f");
        fault(2, "SELECT 1 FROM ^t2 f");
        fault(2, "SELECT 1 FROM t0 f,^f g");
        fault(2, "SELECT 1 FROM t0 f,t1 g,^t2 h");
        fault(2, "SELECT 1 WHERE NOT EXISTS(SELECT 1 FROM ^t2 f)");
        fault(2, "WITH p(x) AS (SELECT 1 FROM ^x f) SELECT 1");
        fault(2, "WITH RECURSIVE p(x) AS (SELECT 1 FROM ^q f) SELECT 1");
        fault(2, "WITH p(x) AS (SELECT 1) SELECT 1 FROM p f,^q g");
        fine(0, "SELECT 1 FROM t0 f,t1 g WHERE NOT EXISTS(SELECT 1 FROM t1 h)");
    }

    /** "or, without RECURSIVE, means this part or a later one (its columns are known then)". */
    private static void sourceOfALaterPart() {
        String first = "p(x) AS (SELECT 1 UNION SELECT f.x FROM p f)";
        fine(1, "WITH RECURSIVE " + first + " SELECT 1");
        fault(2, "WITH " + first.replace("FROM p", "FROM ^p") + " SELECT 1");
        for (String name : new String[] {"q", "r", "s"}) {
            String tail = ",q(x) AS (SELECT 1),r(x) AS (SELECT 1),s(x) AS (SELECT 1) SELECT 1";
            fine(4, "WITH RECURSIVE p(x) AS (SELECT f.x FROM " + name + " f)" + tail);
            fault(2, "WITH p(x) AS (SELECT f.x FROM ^" + name + " f)" + tail);
            fault(2, "WITH p(x) AS (SELECT ^f.y FROM " + name + " f)" + tail);
            fault(2, "WITH p(x) AS (SELECT 1 WHERE NOT EXISTS(SELECT 1 FROM ^" + name + " f WHERE f.x=1))" + tail);
        }
        fault(2, "WITH p(x) AS (SELECT 1),q(x) AS (SELECT f.x FROM p f,^q g),r(x) AS (SELECT 1) SELECT 1");
        fine(3, "WITH p(x) AS (SELECT 1),q(x) AS (SELECT f.x FROM p f),r(x) AS (SELECT f.x FROM q f,p g) SELECT f.x"
                + " FROM p f,q g,r h");
        // The name means the first part that has it, which stands before.
        fault(2, "WITH p(x) AS (SELECT 1),q(x) AS (SELECT f.x FROM p f),^p(x) AS (SELECT f.x FROM p f) SELECT 1");
    }

    /** "A source's name means the part of that name (the first one, if there are more), else the table". */
    private static void partBeforeTable() {
        fine(1, "WITH t1(x,y) AS (SELECT 1,2) SELECT f.y FROM t1 f");
        fault(2, "WITH t1(x,y) AS (SELECT 1,2) SELECT ^f.a FROM t1 f");
        fault(2, "WITH p(x) AS (SELECT f.a FROM ^t1 f),t1(a) AS (SELECT 1) SELECT 1");
        fault(2, "WITH t1(x) AS (SELECT f.x FROM ^t1 f) SELECT 1");
        fault(2, "WITH p(x) AS (SELECT 1),q(y) AS (SELECT ^f.y FROM p f),p(y) AS (SELECT 1) SELECT 1");
        fault(2, "WITH p(x) AS (SELECT 1),q(y) AS (SELECT f.x FROM p f),^p(y) AS (SELECT 1) SELECT f.y FROM p f");
        fine(1, "WITH t2(x) AS (SELECT 1) SELECT f.x FROM t2 f");
    }

    /** "a column whose alias .. is not known". */
    private static void aliasNotKnown() {
        fault(2, "SELECT ^f.a");
        fault(2, "SELECT ^g.a FROM t0 f");
        fault(2, "SELECT ^t0.a FROM t0 f");
        fault(2, "SELECT 1+^g.a FROM t0 f");
        fault(2, "SELECT f.a,SUM(^g.a) FROM t0 f");
        fault(2, "SELECT 1 FROM t0 f WHERE f.a<^g.a");
        fault(2, "SELECT 1 FROM t0 f WHERE NOT EXISTS(SELECT 1 FROM t0 g WHERE ^h.a=1)");
        fault(2, "SELECT 1 FROM t0 f ORDER BY ^g.a");
        fault(2, "WITH p(x) AS (SELECT 1 FROM t0 f) SELECT ^f.a");
        fault(2, "WITH p(x) AS (SELECT f.a FROM t0 f UNION SELECT ^f.a) SELECT 1");
        fault(2, "WITH p(x) AS (SELECT f.a FROM t0 f) SELECT 1 FROM t0 g ORDER BY ^f.a");
    }

    /** "a column whose .. name is not known". */
    private static void columnNotKnown() {
        fine(0, "SELECT f.b FROM t0 f");
        fault(2, "SELECT ^f.c FROM t0 f");
        fault(2, "SELECT ^f.f FROM t0 f");
        fault(2, "SELECT ^f.t0 FROM t0 f");
        fault(2, "SELECT ^f.b FROM t1 f,t0 g");
        fault(2, "SELECT 1 FROM t1 f WHERE NOT EXISTS(SELECT 1 FROM t0 g WHERE g.b=^f.b)");
        fault(2, "SELECT 1 FROM t0 f ORDER BY f.a,^f.c");
        fault(2, "WITH p(x,y) AS (SELECT 1,2) SELECT f.x,f.y,^f.z FROM p f");
        fault(2, "WITH p(x,y) AS (SELECT 1,2) SELECT ^f.p FROM p f");
        fault(2, "WITH p(x,y) AS (SELECT 1,2),q(z) AS (SELECT 1) SELECT ^f.z FROM p f,q g");
    }

    /** "(no names are known of a source that means nothing)". */
    private static void columnOfNothing() {
        fault(2, "SELECT ^f.a FROM t2 f");
        fault(2, "SELECT 1 FROM ^t2 f WHERE f.a=1");
        fault(2, "SELECT f.a FROM t0 f WHERE NOT EXISTS(SELECT 1 FROM ^t2 g WHERE g.a=1)");
        fault(2, "SELECT ^g.a FROM t0 f,t2 g");
        fault(2, "SELECT 1 FROM ^t2 f ORDER BY f.a");
    }

    /** "an alias the first source that has it, one of a selection before that of its NOT EXISTS." */
    private static void aliasOfTheFirst() {
        fault(2, "SELECT f.b FROM t0 f,t1 ^f");
        fault(2, "SELECT ^f.b FROM t1 f,t0 f");
        fault(2, "SELECT 1 FROM t0 f WHERE NOT EXISTS(SELECT 1 FROM t1 ^f WHERE f.b=1)");
        fault(2, "SELECT 1 FROM ^t2 f WHERE NOT EXISTS(SELECT 1 FROM t0 f WHERE f.b=1)");
        // That f, the selection's, has no b is a fault, too, but it stands behind the alias.
        fault(2, "SELECT f.a FROM t1 f WHERE NOT EXISTS(SELECT 1 FROM t0 ^f WHERE f.b=1)");
    }

    /** "the name behind SEARCH's SET is one that stands in ORDER BY alone"; "(at its alias)". */
    private static void trailInOrderByAlone() {
        String part = LOOP + "SEARCH DEPTH FIRST BY x SET k ";
        fine(1, part + "SELECT f.x FROM p f ORDER BY f.k");
        fine(1, part + "SELECT f.x FROM p f ORDER BY f.k,f.k");
        fine(1, part + "SELECT f.x FROM p f,p g ORDER BY g.k,f.k");
        fault(2, part + "SELECT ^f.k FROM p f");
        fault(2, part + "SELECT ^f.k FROM p f ORDER BY f.k");
        fault(2, part + "SELECT f.x,1+^f.k FROM p f");
        fault(2, part + "SELECT MAX(^f.k) FROM p f");
        fault(2, part + "SELECT 1 FROM p f WHERE ^f.k=1");
        fault(2, part + "SELECT 1 FROM p f WHERE ^f.k IS NULL");
        fault(2, part + "SELECT 1 FROM p f WHERE NOT EXISTS(SELECT 1 FROM p g WHERE ^g.k=1)");
        fault(2, part.trim() + ",q(x) AS (SELECT ^f.k FROM p f) SELECT 1");
        fault(2, part.replace("SELECT r.x", "SELECT ^r.k") + "SELECT 1");
        // Of another part it is not known, in ORDER BY neither.
        fault(2, part.trim() + ",q(x) AS (SELECT 1) SELECT f.x FROM p g,q f ORDER BY ^f.k");
    }

    /** "the name behind CYCLE's SET is one more, its MARK". */
    private static void markIsAColumn() {
        String part = LOOP + "CYCLE x SET m ";
        fine(1, part + "SELECT f.m,1+f.m FROM p f WHERE f.m=0 AND NOT EXISTS(SELECT 1 FROM p g WHERE g.m=1) ORDER"
                + " BY f.m");
        fine(1, part + "SELECT SUM(f.m) FROM p f");
        fine(2, part.trim() + ",q(x) AS (SELECT f.m FROM p f) SELECT 1");
        fine(1, part.replace("SELECT r.x", "SELECT r.m") + "SELECT 1");
        fault(2, LOOP + "SELECT ^f.m FROM p f");
        fault(2, part.trim() + ",q(x) AS (SELECT 1) SELECT ^f.m FROM q f");
    }

    /** "a name behind SEARCH's BY .. that is none of the part's columns in its ( ) (its MARK is none of them)". */
    private static void nameBehindBy() {
        for (String by : new String[] {"x", "y", "z"}) {
            fine(1, LOOP + "SEARCH DEPTH FIRST BY " + by + " SET k CYCLE x SET m SELECT 1");
            fine(1, LOOP + "SEARCH BREADTH FIRST BY " + by + " SET k SELECT 1");
        }
        for (String by : new String[] {"w", "k", "m", "p", "r", "a"}) {
            fault(2, LOOP + "SEARCH DEPTH FIRST BY ^" + by + " SET k CYCLE x SET m SELECT 1");
            fault(2, LOOP + "SEARCH BREADTH FIRST BY ^" + by + " SET k CYCLE x SET m SELECT 1");
        }
        fault(2, LOOP.trim() + ",q(w) AS (SELECT 1 UNION SELECT r.w FROM q r) SEARCH DEPTH FIRST BY ^x SET k SELECT 1");
    }

    /** "a name .. behind CYCLE that is none of the part's columns in its ( ) (its MARK is none of them)". */
    private static void nameBehindCycle() {
        for (String name : new String[] {"x", "y", "z"}) {
            fine(1, LOOP + "SEARCH DEPTH FIRST BY x SET k CYCLE " + name + " SET m SELECT 1");
            fine(1, LOOP + "CYCLE " + name + " SET m SELECT 1");
        }
        for (String name : new String[] {"w", "k", "m", "p", "r", "a"}) {
            fault(2, LOOP + "SEARCH DEPTH FIRST BY x SET k CYCLE ^" + name + " SET m SELECT 1");
        }
        fault(2, LOOP + "SEARCH DEPTH FIRST BY ^w SET k CYCLE w SET m SELECT 1");
    }

    /** "ORDER BY where the query's own selection has COUNT, SUM, MIN or MAX (at ORDER)." */
    private static void orderByOfGroups() {
        for (String gather : new String[] {"COUNT(*)", "SUM(f.a)", "MIN(f.a)", "MAX(f.a)"}) {
            fine(0, "SELECT f.a," + gather + " FROM t0 f");
            fault(2, "SELECT f.a," + gather + " FROM t0 f ^ORDER BY f.a");
            fault(2, "SELECT " + gather + ",f.a FROM t0 f ^ORDER BY f.a,f.b");
            fault(2, "SELECT " + gather + " FROM t0 f ^ORDER BY f.c");
            fault(2, "SELECT " + gather + ",^f.c FROM t0 f ORDER BY f.a");
            fine(1, "WITH p(x) AS (SELECT " + gather + " FROM t0 f) SELECT f.x FROM p f ORDER BY f.x");
        }
    }

    /** "3 WIDTH: .. more or fewer items than the part has columns in its ( ) (at its SELECT)." */
    private static void widths() {
        String[] names = {"x", "x,y", "x,y,z"};
        String[] items = {"1", "1,2", "1,2,3", "1,2,3,4"};
        for (int width = 0; width < 3; width++) {
            for (int count = 0; count < 4; count++) {
                String begin = "WITH p(" + names[width] + ") AS (";
                if (count == width) {
                    fine(1, begin + "SELECT " + items[count] + ") SELECT 1");
                } else {
                    fault(3, begin + "^SELECT " + items[count] + ") SELECT 1");
                    fault(3, begin + "SELECT " + items[width] + " UNION ^SELECT " + items[count] + " UNION SELECT "
                            + items[width] + ") SELECT 1");
                    fault(3, begin + "SELECT " + items[width] + " UNION ALL SELECT " + items[width]
                            + " UNION ALL SELECT " + items[width] + " UNION ALL ^SELECT " + items[count]
                            + ") SELECT 1");
                }
            }
        }
        // MARK and TRAIL are not in the ( ), and the query's own selection belongs to no part.
        fault(3, "WITH RECURSIVE p(x) AS (SELECT 1 UNION ^SELECT r.x,r.m FROM p r) CYCLE x SET m SELECT 1");
        fault(3, "WITH RECURSIVE p(x) AS (^SELECT 1,2 UNION SELECT r.x FROM p r) SEARCH DEPTH FIRST BY x SET k"
                + " SELECT 1");
        fine(1, "WITH p(x) AS (SELECT 1) SELECT 1,2,3,4");
    }

    /** "4 MIXED: a part has both UNION and UNION ALL (at the part's name ..)." */
    private static void mixed() {
        String one = "SELECT 1";
        for (int all = 0; all < 8; all++) {
            StringBuilder selections = new StringBuilder(one);
            for (int i = 0; i < 3; i++) {
                selections.append((all >> i & 1) != 0 ? " UNION ALL " : " UNION ").append(one);
            }
            if (all == 0 || all == 7) {
                fine(1, "WITH p(x) AS (" + selections + ") SELECT 1");
            } else {
                fault(4, "WITH ^p(x) AS (" + selections + ") SELECT 1");
                fault(4, "WITH " + part("p") + ",^q(x) AS (" + selections + ") SELECT 1");
            }
        }
        fine(2, "WITH p(x) AS (SELECT 1 UNION SELECT 2),q(x) AS (SELECT 1 UNION ALL SELECT 2) SELECT 1");
    }

    /** "5 BARRED: a selection with COUNT, SUM, MIN or MAX .. names a part of its own component (at that name ..)". */
    private static void barred() {
        for (String gather : GATHERS) {
            fault(5, "WITH RECURSIVE p(x) AS (SELECT 1 UNION SELECT " + gather + " FROM ^p f) SELECT 1");
            fault(5, "WITH RECURSIVE p(x) AS (SELECT 1 UNION SELECT " + gather + " FROM ^p f,p g) SELECT 1");
            fault(5, "WITH RECURSIVE p(x) AS (SELECT 1 UNION SELECT " + gather.replace("f.x", "g.x")
                    + " FROM t0 f,^p g) SELECT 1");
            fault(5, "WITH RECURSIVE p(x) AS (SELECT 1 UNION SELECT f.x FROM q f),q(x) AS (SELECT 2 UNION SELECT "
                    + gather + " FROM ^p f) SELECT 1");
            fault(5, "WITH RECURSIVE p(x) AS (SELECT " + gather + " FROM ^p f) SELECT 1");
            // Another component may be named, and so may the own one by a selection without them.
            fine(2, "WITH RECURSIVE q(x) AS (SELECT 1),p(x) AS (SELECT " + gather
                    + " FROM q f UNION SELECT f.x FROM p f) SELECT 1");
            fine(2, "WITH RECURSIVE p(x) AS (SELECT 1 UNION SELECT f.x FROM p f),q(x) AS (SELECT " + gather
                    + " FROM p f) SELECT 1");
            fine(1, "WITH RECURSIVE p(x) AS (SELECT 1 UNION SELECT f.x FROM p f) SELECT " + gather + " FROM p f");
        }
    }

    /** "5 BARRED: .. or a NOT EXISTS, of a recursive part names a part of its own component". */
    private static void barredByNotExists() {
        fault(5, "WITH RECURSIVE p(x) AS (SELECT 1 UNION SELECT 2 WHERE NOT EXISTS(SELECT 1 FROM ^p f)) SELECT 1");
        fault(5, "WITH RECURSIVE p(x) AS (SELECT 1 UNION SELECT f.x FROM p f WHERE NOT EXISTS(SELECT 1 FROM ^p g))"
                + " SELECT 1");
        fault(5, "WITH RECURSIVE p(x) AS (SELECT 1 WHERE NOT EXISTS(SELECT 1 FROM ^p g)) SELECT 1");
        fault(5, "WITH RECURSIVE p(x) AS (SELECT 1 UNION SELECT f.x FROM q f),q(x) AS (SELECT 1 WHERE NOT EXISTS("
                + "SELECT 1 FROM ^p f)) SELECT 1");
        fault(5, "WITH RECURSIVE p(x) AS (SELECT 1 UNION SELECT MAX(f.x) FROM ^p f WHERE NOT EXISTS(SELECT 1 FROM p g))"
                + " SELECT 1");
        fine(2, "WITH RECURSIVE q(x) AS (SELECT 1),p(x) AS (SELECT 1 UNION SELECT f.x FROM p f WHERE NOT EXISTS("
                + "SELECT 1 FROM q g)) SELECT 1");
        fine(2, "WITH RECURSIVE p(x) AS (SELECT 1 UNION SELECT f.x FROM p f),q(x) AS (SELECT 1 WHERE NOT EXISTS("
                + "SELECT 1 FROM p f)) SELECT 1");
    }

    /** "6 ANCHOR: the first selection of a recursive part names a part of its component." */
    private static void anchor() {
        fault(6, "WITH RECURSIVE ^p(x) AS (SELECT f.x FROM p f) SELECT 1");
        fault(6, "WITH RECURSIVE ^p(x) AS (SELECT f.x FROM p f UNION SELECT 1) SELECT 1");
        fault(6, "WITH RECURSIVE ^p(x) AS (SELECT g.x FROM t0 f,p g UNION ALL SELECT 1) SELECT 1");
        fine(1, "WITH RECURSIVE p(x) AS (SELECT 1 UNION SELECT f.x FROM p f) SELECT 1");
        fine(1, "WITH RECURSIVE p(x) AS (SELECT 1 UNION SELECT f.x FROM p f UNION SELECT f.x FROM p f UNION SELECT 2)"
                + " SELECT 1");
        fault(6, "WITH RECURSIVE ^p(x) AS (SELECT f.x FROM q f),q(x) AS (SELECT 1 UNION SELECT f.x FROM p f) SELECT 1");
        fault(6, "WITH RECURSIVE q(x) AS (SELECT 1 UNION SELECT f.x FROM p f),^p(x) AS (SELECT f.x FROM q f) SELECT 1");
        // The first selection may name what is of another component.
        fine(2, "WITH RECURSIVE p(x) AS (SELECT f.x FROM q f UNION SELECT f.x FROM p f),q(x) AS (SELECT 1) SELECT 1");
    }

    /** "7 LINEAR: a recursive part with UNION ALL, SEARCH or CYCLE is not the only part of its component". */
    private static void linearAlone() {
        String p = "p(x) AS (SELECT 1 UNION SELECT f.x FROM q f)";
        String q = "q(x) AS (SELECT 1 UNION SELECT f.x FROM p f)";
        String[] tails = {" SEARCH DEPTH FIRST BY x SET k", " SEARCH BREADTH FIRST BY x SET k", " CYCLE x SET m"};
        fine(2, "WITH RECURSIVE " + p + "," + q + " SELECT 1");
        for (String tail : tails) {
            fault(7, "WITH RECURSIVE ^" + p + tail + "," + q + " SELECT 1");
            fault(7, "WITH RECURSIVE " + p + ",^" + q + tail + " SELECT 1");
            fault(7, "WITH RECURSIVE ^" + p + tail + "," + q + tail + " SELECT 1");
        }
        fault(7, "WITH RECURSIVE ^" + p.replace("UNION", "UNION ALL") + "," + q + " SELECT 1");
        fault(7, "WITH RECURSIVE " + p + ",^" + q.replace("UNION", "UNION ALL") + " SELECT 1");
        // Two components, each with one part.
        String alone = "q(x) AS (SELECT f.x FROM p f UNION ALL SELECT f.x FROM q f)";
        for (String tail : tails) {
            fine(2, "WITH RECURSIVE " + p.replace("FROM q", "FROM p") + tail + "," + alone + tail + " SELECT 1");
        }
    }

    /** "7 LINEAR: .. or one of its selections names it twice." */
    private static void linearTwice() {
        String once = "p(x) AS (SELECT 1 UNION SELECT f.x FROM p f UNION SELECT f.x FROM t0 g,p f UNION SELECT f.x"
                + " FROM p f)";
        String twice = "p(x) AS (SELECT 1 UNION SELECT f.x FROM p f UNION SELECT f.x FROM p f,p g)";
        String thrice = "p(x) AS (SELECT 1 UNION SELECT f.x FROM p f,p g,p h)";
        String[] tails = {" SEARCH DEPTH FIRST BY x SET k", " SEARCH BREADTH FIRST BY x SET k", " CYCLE x SET m"};
        for (String tail : tails) {
            fine(1, "WITH RECURSIVE " + once + tail + " SELECT 1");
            fault(7, "WITH RECURSIVE ^" + twice + tail + " SELECT 1");
            fault(7, "WITH RECURSIVE ^" + thrice + tail + " SELECT 1");
        }
        fine(1, "WITH RECURSIVE " + once.replace("UNION", "UNION ALL") + " SELECT 1");
        fault(7, "WITH RECURSIVE ^" + twice.replace("UNION", "UNION ALL") + " SELECT 1");
        fault(7, "WITH RECURSIVE ^" + twice.replace("p f,p g", "p f,t0 h,p g").replace("UNION", "UNION ALL")
                + " SELECT 1");
        fine(1, "WITH RECURSIVE " + twice + " SELECT 1");
        fine(1, "WITH RECURSIVE " + thrice + " SELECT 1");
        // One that is not recursive may name another twice.
        fine(2, "WITH p(x) AS (SELECT 1),q(x) AS (SELECT f.x FROM p f,p g UNION ALL SELECT 1) SELECT 1");
        fine(2, "WITH p(x) AS (SELECT 1),q(x) AS (SELECT f.x FROM p f,p g UNION ALL SELECT 1) SELECT 1 FROM q f,q g");
    }

    /** "8 a part with SEARCH or CYCLE is not recursive." */
    private static void searchOfNoRecursion() {
        String[] tails = {" SEARCH DEPTH FIRST BY x SET k", " SEARCH BREADTH FIRST BY x SET k", " CYCLE x SET m",
            " SEARCH DEPTH FIRST BY x SET k CYCLE x SET m"};
        for (String tail : tails) {
            fault(8, "WITH ^p(x) AS (SELECT 1)" + tail + " SELECT 1");
            fault(8, "WITH RECURSIVE ^p(x) AS (SELECT 1 UNION SELECT 2)" + tail + " SELECT 1");
            fault(8, "WITH RECURSIVE p(x) AS (SELECT 1 UNION SELECT f.x FROM p f),^q(x) AS (SELECT f.x FROM p f)" + tail
                    + " SELECT 1");
            fine(1, "WITH RECURSIVE p(x) AS (SELECT 1 UNION SELECT f.x FROM p f)" + tail + " SELECT 1");
        }
    }

    /** "FAULTS, by their numbers, the first that there is": wherever they stand. */
    private static void lowestNumber() {
        for (int i = 0; i < FAULTY.length; i++) {
            fault(i + 2, "WITH RECURSIVE " + FAULTY[i] + " SELECT 1");
            String plain = FAULTY[i].replace("^", "");
            fault(1, "WITH RECURSIVE " + plain + " SELECT 1 ^1");
            fault(1, "WITH RECURSIVE " + plain + "^");
            for (int k = i + 1; k < FAULTY.length; k++) {
                String other = FAULTY[k].replace("^", "");
                fault(i + 2, "WITH RECURSIVE " + other + "," + FAULTY[i] + " SELECT 1");
                fault(i + 2, "WITH RECURSIVE " + FAULTY[i] + "," + other + " SELECT 1");
                fault(2, "WITH RECURSIVE " + plain.replace("f.z", "1") + "," + other + " SELECT 1 FROM ^t9 f");
            }
        }
    }

    /** "(of one number: that with the lowest place)". */
    private static void lowestPlace() {
        for (int i = 0; i < FAULTY.length; i++) {
            char name = FAULTY[i].replace("^", "").charAt(0);
            String again = FAULTY[i].replace("^", "").replace(name + "(", "w(").replace("FROM " + name + " ", "FROM w ")
                    .replace("," + name + " ", ",w ");
            fault(i + 2, "WITH RECURSIVE " + FAULTY[i] + "," + again + " SELECT 1");
        }
        fault(2, "WITH p(x) AS (SELECT ^g.a FROM p f,t9 f) CYCLE w SET x SELECT f.a");
        fault(2, "WITH p(x) AS (SELECT 1 FROM ^p f,t9 f) CYCLE w SET x SELECT f.a");
        fault(2, "WITH p(x) AS (SELECT 1 FROM ^t9 f,t0 f) CYCLE w SET x SELECT f.a");
        fault(2, "WITH p(x) AS (SELECT 1 FROM t0 f,t0 ^f) CYCLE w SET x SELECT f.a");
        fault(2, "WITH p(x) AS (SELECT 1 FROM t0 f) CYCLE ^w SET x SELECT f.a");
        fault(2, "WITH p(x) AS (SELECT 1 FROM t0 f) CYCLE x SET ^x SELECT f.a");
        fault(2, "WITH p(x) AS (SELECT 1 FROM t0 f) CYCLE x SET w SELECT ^f.a");
        fault(3, "WITH p(x) AS (SELECT 1 UNION ^SELECT 1,2 UNION SELECT 1,2,3) SELECT 1");
    }

    /** "IllegalArgumentException: it has a fault; there is no query then. The text is empty afterwards". */
    private static void noQueryThen() {
        for (int i = -1; i < FAULTY.length; i++) {
            FixpointEngine e = Kit.engine(new Integer[][] {{5}});
            Kit.dueFine(e, 1, "WITH p(x) AS (SELECT f.a FROM t0 f) SELECT f.x FROM p f");
            Kit.due("an answer", Kit.run(e, 1, 2), "5");
            Kit.dueFault(e, i + 2, i < 0 ? "SELECT ^" : "WITH RECURSIVE " + FAULTY[i] + " SELECT 1");
            Kit.dueNoQuery("fault " + (i + 2), e);
            Kit.dueNoAnswer("fault " + (i + 2), e);
            Kit.dueThrown("the text is empty", e::prepare, IllegalArgumentException.class);
            Kit.due("and faulty at 0", e.fault(), 1);
            Kit.dueAnswer(e, "SELECT f.a FROM t0 f", "5");
            Kit.dueThrown("the text is empty again", e::prepare, IllegalArgumentException.class);
            Kit.due("and faulty at 0 again", e.fault(), 1);
            Kit.dueNoQuery("behind an empty text", e);
            Kit.dueNoAnswer("behind an empty text", e);
        }
    }

    /** "Of the latest prepare() that threw ..; 0 when the latest one did not throw, or there was none." */
    private static void faultStays() {
        FixpointEngine e = new FixpointEngine();
        Kit.due("there was none", e.fault(), 0);
        Kit.dueFault(e, 2, "SELECT ^f.a");
        e.table(1);
        e.row(0, 1, 0, 0, 0);
        e.clear(0);
        Kit.feed(e, "SELECT 1 1");
        Kit.dueThrown("no run", () -> e.run(1, 1), IllegalStateException.class);
        Kit.due("it stays", e.fault(), 72);
        Kit.due("and may be asked again", e.fault(), 72);
        Kit.dueThrown("the next", e::prepare, IllegalArgumentException.class);
        Kit.due("takes its place", e.fault(), 91);
        Kit.dueFine(e, 0, "SELECT 1");
        Kit.due("none", e.fault(), 0);
        Kit.dueThrown("a run that is refused", () -> e.run(0, 0), IllegalArgumentException.class);
        Kit.due("is no fault", e.fault(), 0);
        Kit.dueThrown("an empty text", e::prepare, IllegalArgumentException.class);
        Kit.due("ends at 0", e.fault(), 1);
    }

    /** "Reads the text as a query over the tables that there are". */
    private static void tablesThereAre() {
        FixpointEngine e = new FixpointEngine();
        Kit.feed(e, "SELECT f.a FROM t0 f");
        e.table(1);
        Kit.due("the table came behind the text", e.prepare(), 0);
        Kit.dueFault(e, 2, "SELECT ^f.a FROM t1 f");
        e.table(2);
        e.row(1, 3, 4, 0, 0);
        Kit.dueAnswer(e, "SELECT f.b FROM t1 f", "4");
        e.table(3);
        Kit.due("a table more leaves the query", Kit.run(e, 1, 1), "4");
        Kit.due("and what it has", e.cell(0, 0), 4);
    }
}
