/** Promise 9 and what Terms say of RUNNING and ERRORS: rounds and rows that are allowed, which error is the first. */
final class EdgeRunTest {
    private static final int MOST = Integer.MAX_VALUE;
    private static final String OUT = "ArithmeticException";
    private static final String MORE = "UnsupportedOperationException";
    /** A part of as many rows as the number in place of #, in one round more. */
    private static final String COUNT = "p(x) AS (SELECT 1 UNION SELECT r.x+1 FROM p r WHERE r.x<#)";

    private EdgeRunTest() {
    }

    public static void main(String[] args) {
        argumentsAllowed();
        argumentsRefused();
        refusedRunLeavesTheAnswer();
        noQuery();
        noAnswerThen();
        rowsThatTablesHaveNow();
        roundsAllowed();
        mostRoundsAllowed();
        roundsOfEachComponent();
        oneRoundWithoutRecursion();
        roundWithoutRows();
        rowsOfTheAnswer();
        rowsOfParts();
        rowsTogether();
        rowsThatDoNotCome();
        rowsOfRounds();
        groupsAllowed();
        itemBeforeGroups();
        groupsBeforeSums();
        sumsBeforeRows();
        itemBeforeRows();
        selectionsInOrder();
        componentsInOrder();
        roundsBeforeTheNext();
        notThereYet();
        alwaysComes();
        whatItHadWhenTheRoundBegan();
        unionAllInRoundOne();
        unionAllInLaterRounds();
        runsLeaveNothing();
        Kit.end();
    }

    private static Integer[][] column(Integer... cells) {
        Integer[][] rows = new Integer[cells.length][];
        for (int i = 0; i < cells.length; i++) {
            rows[i] = new Integer[] {cells[i]};
        }
        return rows;
    }

    /** A column that counts from 0 in steps. */
    private static Integer[][] steps(int count, int step) {
        Integer[][] rows = new Integer[count][];
        for (int i = 0; i < count; i++) {
            rows[i] = new Integer[] {i * step};
        }
        return rows;
    }

    /** Runs with just as many rows as are needed, and with one less. */
    private static void dueRows(FixpointEngine e, String text, int rows, String answer) {
        Kit.dueRun(e, text, 30, rows, answer);
        if (rows > 1) {
            Kit.due(rows - 1 + " rows: " + text, Kit.run(e, 30, rows - 1), MORE);
        }
    }

    /** "rounds is not 1 .. 30 or rows not 1 .. 48": these are. */
    private static void argumentsAllowed() {
        FixpointEngine e = new FixpointEngine();
        Kit.dueFine(e, 1, "WITH p(x) AS (SELECT 1 WHERE 1=2) SELECT 1");
        for (int rounds = 1; rounds <= 30; rounds++) {
            Kit.due(rounds + " rounds", e.run(rounds, 1), 1);
            Kit.due(rounds + " rounds, 48 rows", e.run(rounds, 48), 1);
        }
        for (int rows = 1; rows <= 48; rows++) {
            Kit.due(rows + " rows", e.run(1, rows), 1);
            Kit.due(rows + " rows, 30 rounds", e.run(30, rows), 1);
        }
    }

    private static void argumentsRefused() {
        FixpointEngine none = new FixpointEngine();
        FixpointEngine e = new FixpointEngine();
        Kit.dueFine(e, 0, "SELECT 1");
        int[][] wrong = {{0, 1}, {31, 1}, {-1, 1}, {MOST, 1}, {Integer.MIN_VALUE, 1}, {0, 48}, {31, 48}, {1, 0},
                {1, 49}, {1, -1}, {1, MOST}, {1, Integer.MIN_VALUE}, {30, 0}, {30, 49}, {0, 0}, {31, 49}, {48, 30}};
        for (int[] two : wrong) {
            String what = "run(" + two[0] + ", " + two[1] + ")";
            Kit.dueThrown(what, () -> e.run(two[0], two[1]), IllegalArgumentException.class);
            // Both exceptions are due: the one that is said first comes.
            Kit.dueThrown(what + " without a query", () -> none.run(two[0], two[1]), IllegalArgumentException.class);
        }
        Kit.due("then it runs", Kit.run(e, 30, 48), "1");
    }

    /** "otherwise there is no answer, if one is thrown": not if the arguments are wrong. */
    private static void refusedRunLeavesTheAnswer() {
        FixpointEngine e = new FixpointEngine();
        Kit.dueAnswer(e, "WITH RECURSIVE " + COUNT.replace("#", "3") + " SELECT f.x FROM p f", "1; 2; 3");
        int[][] wrong = {{0, 1}, {31, 48}, {1, 0}, {30, 49}};
        for (int[] two : wrong) {
            Kit.dueThrown("refused", () -> e.run(two[0], two[1]), IllegalArgumentException.class);
            Kit.due("cells stay", e.cell(0, 0) + " " + e.cell(2, 0), "1 3");
            Kit.due("sizes stay", e.size(0), 3);
            Kit.due("rounds stay", Kit.rounds(e, 0), "4: 1 1 1 0");
            Kit.due("the query stays", e.part(0, 1), 1);
        }
    }

    /** "IllegalStateException: there is no query". */
    private static void noQuery() {
        FixpointEngine e = new FixpointEngine();
        Kit.dueThrown("none yet", () -> e.run(1, 1), IllegalStateException.class);
        Kit.dueThrown("none with most of both", () -> e.run(30, 48), IllegalStateException.class);
        Kit.feed(e, "SELECT 1");
        Kit.dueThrown("a text is none", () -> e.run(1, 1), IllegalStateException.class);
        Kit.due("prepared", e.prepare(), 0);
        Kit.due("now there is one", e.run(1, 1), 1);
        Kit.dueFault(e, 2, "SELECT ^f.a");
        Kit.dueThrown("none any more", () -> e.run(1, 1), IllegalStateException.class);
        Kit.dueNoAnswer("none any more", e);
    }

    /** "otherwise there is no answer, if one is thrown: ArithmeticException ..; UnsupportedOperationException". */
    private static void noAnswerThen() {
        FixpointEngine e = Kit.engine(column(1, 2));
        Kit.dueFine(e, 1, "WITH RECURSIVE p(x) AS (SELECT f.a FROM t0 f UNION SELECT r.x+1 FROM p r WHERE r.x<4)"
                + " SELECT f.x+1,COUNT(*) FROM p f");
        String answer = "2 1; 3 1; 4 1; 5 1";
        Kit.due("an answer", Kit.run(e, 30, 48), answer);
        Kit.due("too few rounds", Kit.run(e, 3, 48), MORE);
        Kit.dueNoAnswer("too few rounds", e);
        Kit.due("the query is there", e.part(0, 1), 1);
        Kit.due("again", Kit.run(e, 4, 8), answer);
        Kit.due("too few rows", Kit.run(e, 4, 7), MORE);
        Kit.dueNoAnswer("too few rows", e);
        Kit.due("again", Kit.run(e, 4, 8), answer);
        Kit.due("too few for the part", Kit.run(e, 4, 1), MORE);
        Kit.dueNoAnswer("too few for the part", e);
        e.row(0, MOST, 0, 0, 0);
        Kit.due("out of range", Kit.run(e, 30, 48), OUT);
        Kit.dueNoAnswer("out of range", e);
        Kit.due("the query is there still", e.part(0, 0), 0);
        Kit.due("no fault", e.fault(), 0);
        e.clear(0);
        Kit.due("again", Kit.run(e, 1, 1), "");
        Kit.due("an answer without rows is one", e.size(0), 0);
    }

    /** "Runs the query with the rows that tables have now". */
    private static void rowsThatTablesHaveNow() {
        FixpointEngine e = Kit.columns(1);
        Kit.dueFine(e, 1, "WITH p(x) AS (SELECT f.a FROM t0 f) SELECT f.x FROM p f");
        StringBuilder due = new StringBuilder();
        for (int i = 0; i <= 16; i++) {
            Kit.due(i + " rows", Kit.run(e, 1, 48), due);
            Kit.due("in the part", e.size(0), i);
            if (i < 16) {
                e.row(0, i, 0, 0, 0);
                due.append(i == 0 ? "" : "; ").append(i);
            }
        }
        e.clear(0);
        Kit.due("the answer has what there was", e.size(0) + " " + e.cell(15, 0), "16 15");
        Kit.due("none", Kit.run(e, 1, 48), "");
    }

    /** "Behind a round of a recursive component that brought rows: there were as many rounds in it as are allowed." */
    private static void roundsAllowed() {
        for (int count = 1; count <= 29; count++) {
            for (String union : new String[] {"UNION", "UNION ALL"}) {
                FixpointEngine e = new FixpointEngine();
                String text = "WITH RECURSIVE " + COUNT.replace("#", String.valueOf(count)).replace("UNION", union)
                        + " SELECT COUNT(*) FROM p f";
                Kit.dueRun(e, text, count + 1, 48, String.valueOf(count));
                Kit.due("rounds", e.rounds(0, 0), count + 1);
                Kit.due("the last one that brought rows", e.rounds(0, count), 1);
                Kit.due("the last one", e.rounds(0, count + 1), 0);
                Kit.due(count + " rounds are too few", Kit.run(e, count, 48), MORE);
                Kit.due("one is too few", Kit.run(e, 1, 48), MORE);
            }
        }
    }

    private static void mostRoundsAllowed() {
        String text = "WITH RECURSIVE " + COUNT + " SELECT COUNT(*) FROM p f";
        Kit.dueRun(new FixpointEngine(), text.replace("#", "29"), 30, 48, "29");
        Kit.dueRun(new FixpointEngine(), text.replace("#", "30"), 30, 48, MORE);
        Kit.dueRun(new FixpointEngine(), text.replace("#", "9999"), 30, 48, MORE);
    }

    /** Rounds are counted in each component by itself. */
    private static void roundsOfEachComponent() {
        FixpointEngine e = new FixpointEngine();
        String ten = COUNT.replace("#", "10");
        String text = "WITH RECURSIVE " + ten + "," + ten.replace('p', 'q') + "," + ten.replace('p', 's') + " SELECT 1";
        Kit.dueRun(e, text, 11, 31, "1");
        Kit.due("eleven each", e.rounds(0, 0) + " " + e.rounds(1, 0) + " " + e.rounds(2, 0), "11 11 11");
        Kit.due("ten are too few", Kit.run(e, 10, 31), MORE);
        // Thirty rounds of one component stand beside those of the next.
        FixpointEngine f = new FixpointEngine();
        String last = COUNT.replace('p', 'v').replace("#", "5");
        Kit.dueRun(f, "WITH RECURSIVE " + COUNT.replace("#", "29") + "," + last + " SELECT 1", 30, 35, "1");
        Kit.due("thirty rounds", Kit.rounds(f, 0), "30:" + " 1".repeat(29) + " 0");
        Kit.due("six rounds", Kit.rounds(f, 1), "6: 1 1 1 1 1 0");
        FixpointEngine g = new FixpointEngine();
        Kit.dueRun(g, "WITH RECURSIVE b(x) AS (SELECT 1),c(x) AS (SELECT 1),d(x) AS (SELECT 1),"
                + COUNT.replace("#", "29") + " SELECT 1", 30, 33, "1");
        Kit.due("thirty rounds of the fourth", Kit.rounds(g, 3), "30:" + " 1".repeat(29) + " 0");
    }

    /** "A part that is not recursive has one round." */
    private static void oneRoundWithoutRecursion() {
        FixpointEngine e = Kit.engine(steps(16, 1));
        Kit.dueRun(e, "WITH p(x) AS (SELECT f.a FROM t0 f),q(x) AS (SELECT f.x FROM p f UNION ALL SELECT 1),r(x) AS"
                + " (SELECT 1 WHERE 1=2) SELECT COUNT(*) FROM q f", 1, 34, "17");
        Kit.due("p", Kit.rounds(e, 0), "1: 16");
        Kit.due("q", Kit.rounds(e, 1), "1: 17");
        Kit.due("r, that brought nothing", Kit.rounds(e, 2), "1: 0");
    }

    /** "goes on until a round brings no row": the first one, too. */
    private static void roundWithoutRows() {
        for (String union : new String[] {"UNION", "UNION ALL"}) {
            FixpointEngine e = new FixpointEngine();
            Kit.dueRun(e, "WITH RECURSIVE p(x) AS (SELECT 1 WHERE 1=2 " + union + " SELECT r.x+1 FROM p r) SELECT 4",
                    1, 1, "4");
            Kit.due(union + ": one round", Kit.rounds(e, 0), "1: 0");
            FixpointEngine f = new FixpointEngine();
            Kit.dueRun(f, "WITH RECURSIVE p(x) AS (SELECT 1 " + union + " SELECT r.x+1 FROM p r WHERE r.x>1) SELECT 4",
                    2, 2, "4");
            Kit.due(union + ": two rounds", Kit.rounds(f, 0), "2: 1 0");
            Kit.due(union + ": one is too few", Kit.run(f, 1, 2), MORE);
        }
    }

    /** "all parts and the answer have more rows together than allowed": the answer alone. */
    private static void rowsOfTheAnswer() {
        for (int count = 1; count <= 16; count++) {
            FixpointEngine e = Kit.engine(steps(count, 0));
            dueRows(e, "SELECT f.a FROM t0 f", count, "0; ".repeat(count - 1) + "0");
        }
        dueRows(Kit.engine(steps(16, 0), steps(3, 0)), "SELECT 7 FROM t0 f,t1 g", 48, "7; ".repeat(47) + "7");
        // 49 rows are more than any run allows; with ORDER BY, too.
        Kit.dueRun(Kit.engine(steps(7, 0)), "SELECT 7 FROM t0 f,t0 g", 30, 48, MORE);
        Kit.dueRun(Kit.engine(steps(7, 0)), "SELECT 7 FROM t0 f,t0 g ORDER BY f.a,g.a", 30, 48, MORE);
        Kit.dueRun(Kit.engine(steps(7, 1)), "SELECT f.a+g.a FROM t0 f,t0 g ORDER BY f.a,g.a", 30, 48, MORE);
        Kit.dueRun(Kit.engine(steps(16, 0)), "SELECT 7 FROM t0 f,t0 g,t0 h", 30, 48, MORE);
    }

    private static void rowsOfParts() {
        FixpointEngine e = Kit.engine(steps(16, 1), steps(3, 16));
        String part = "WITH p(x) AS (SELECT f.a+g.a FROM t0 f,t1 g) ";
        dueRows(e, part + "SELECT 1 WHERE 1=2", 48, "");
        Kit.dueRun(e, part + "SELECT 1", 30, 48, MORE);
        Kit.dueRun(e, part + "SELECT COUNT(*) FROM p f", 30, 48, MORE);
        FixpointEngine seven = Kit.engine(steps(7, 0));
        Kit.dueRun(seven, "WITH p(x) AS (SELECT f.a FROM t0 f,t0 g) SELECT 1 WHERE 1=2", 30, 48, MORE);
        Kit.dueRun(seven, "WITH p(x) AS (SELECT f.a FROM t0 f,t0 g UNION ALL SELECT 1) SELECT 1 WHERE 1=2", 30, 48,
                MORE);
    }

    private static void rowsTogether() {
        FixpointEngine e = Kit.engine(steps(16, 1));
        String two = "WITH p(x) AS (SELECT f.a FROM t0 f),q(x) AS (SELECT f.x FROM p f) ";
        dueRows(e, two + "SELECT f.x FROM q f WHERE f.x<2", 34, "0; 1");
        dueRows(e, two + "SELECT COUNT(*) FROM p f,q g", 33, "256");
        dueRows(e, two + "SELECT f.x FROM q f WHERE f.x>99", 32, "");
        dueRows(e, "WITH p(x) AS (SELECT 1),q(x) AS (SELECT 1),r(x) AS (SELECT 1),s(x) AS (SELECT 1) SELECT 1", 5, "1");
        FixpointEngine f = Kit.engine(steps(16, 1));
        dueRows(f, two + "SELECT f.x FROM q f", 48, "0; 1; 2; 3; 4; 5; 6; 7; 8; 9; 10; 11; 12; 13; 14; 15");
    }

    /** A row that is there already does not come, and so is not counted. */
    private static void rowsThatDoNotCome() {
        FixpointEngine e = Kit.engine(steps(16, 1), steps(3, 16));
        String again = "SELECT f.a+g.a FROM t0 f,t1 g";
        String part = "WITH p(x) AS (" + again + " UNION " + again + " UNION " + again;
        String end = ") SELECT 1 WHERE 1=2";
        Kit.dueRun(e, part + end, 1, 48, "");
        Kit.due("all rows there can be", e.size(0), 48);
        Kit.due("in one round", Kit.rounds(e, 0), "1: 48");
        Kit.due("47 are too few", Kit.run(e, 1, 47), MORE);
        Kit.dueRun(e, part.replace("UNION", "UNION ALL") + end, 1, 48, MORE);
        Kit.dueRun(e, part + " UNION SELECT 47" + end, 1, 48, "");
        Kit.dueRun(e, part + " UNION SELECT 48" + end, 1, 48, MORE);
        // A recursive part that is full goes on to a round that brings nothing.
        FixpointEngine f = Kit.engine(steps(16, 1), steps(3, 16));
        Kit.dueRun(f, "WITH RECURSIVE p(x) AS (" + again + " UNION SELECT r.x-1 FROM p r WHERE r.x>0) SELECT 1"
                + " WHERE 1=2", 2,
                48, "");
        Kit.due("two rounds", Kit.rounds(f, 0), "2: 48 0");
    }

    /** "as its rows come": in any round, and of any selection of it. */
    private static void rowsOfRounds() {
        FixpointEngine e = new FixpointEngine();
        dueRows(e, "WITH RECURSIVE " + COUNT.replace("#", "20") + " SELECT f.x FROM p f WHERE f.x<4", 23, "1; 2; 3");
        String twice = "WITH RECURSIVE p(x) AS (SELECT 1 UNION ALL SELECT r.x+1 FROM p r WHERE r.x<4 UNION ALL"
                + " SELECT r.x+1 FROM p r WHERE r.x<4) SELECT COUNT(*) FROM p f";
        dueRows(new FixpointEngine(), twice, 16, "15");
        // Rows with MARK 1 are rows.
        dueRows(new FixpointEngine(), "WITH RECURSIVE p(x) AS (SELECT 1 UNION SELECT r.x FROM p r) CYCLE x SET m SELECT"
                + " f.x,f.m FROM p f", 4, "1 0; 1 1");
    }

    /** "second, it has more groups than rows are allowed". */
    private static void groupsAllowed() {
        for (int count = 1; count <= 16; count++) {
            FixpointEngine e = Kit.engine(steps(count, 1));
            dueRows(e, "WITH p(x) AS (SELECT COUNT(*) FROM t0 f WHERE 1=2) SELECT MAX(f.a-f.a),COUNT(*) FROM t0 f", 2,
                    "0 " + count);
            Kit.dueRun(e, "SELECT COUNT(*),f.a FROM t0 f WHERE f.a<1", 1, 1, "1 0");
            dueRows(e, "SELECT f.a-f.a,f.a,COUNT(*) FROM t0 f WHERE f.a<" + count, count, groups(count));
        }
        dueRows(Kit.engine(steps(16, 1), steps(3, 16)), "SELECT g.a-g.a,f.a+g.a,COUNT(*) FROM t1 g,t0 f", 48,
                groups(48));
        Kit.dueRun(Kit.engine(steps(7, 7), steps(7, 1)), "SELECT f.a+g.a,COUNT(*) FROM t0 f,t1 g", 30, 48, MORE);
    }

    private static String groups(int count) {
        StringBuilder all = new StringBuilder();
        for (int i = 0; i < count; i++) {
            all.append(i == 0 ? "" : "; ").append("0 ").append(i).append(" 1");
        }
        return all.toString();
    }

    /** "first, an item .. is out of range for some combination; second, .. more groups": the last combination, too. */
    private static void itemBeforeGroups() {
        FixpointEngine e = Kit.engine(column(1, 2, 3, MOST));
        Kit.dueRun(e, "SELECT f.a+1,COUNT(*) FROM t0 f", 1, 1, OUT);
        Kit.dueRun(e, "SELECT f.a+1,COUNT(*) FROM t0 f", 1, 4, OUT);
        Kit.dueRun(e, "SELECT f.a+1,COUNT(*) FROM t0 f WHERE f.a<9", 1, 2, MORE);
        Kit.dueRun(e, "SELECT f.a+0,COUNT(*) FROM t0 f", 1, 3, MORE);
        Kit.dueRun(e, "WITH p(x,y) AS (SELECT f.a+1,COUNT(*) FROM t0 f) SELECT 1", 1, 1, OUT);
    }

    /** "second, .. groups ..; third, a SUM, MIN or MAX is out of range". */
    private static void groupsBeforeSums() {
        FixpointEngine e = Kit.engine(column(MOST, 1, 2));
        for (String gather : new String[] {"SUM", "MIN", "MAX"}) {
            String text = "SELECT f.a," + gather + "(f.a+1) FROM t0 f";
            Kit.dueRun(e, text, 1, 2, MORE);
            Kit.dueRun(e, text, 1, 3, OUT);
            Kit.dueRun(e, "WITH p(x,y) AS (" + text + ") SELECT 1", 1, 2, MORE);
            Kit.dueRun(e, "WITH p(x,y) AS (" + text + ") SELECT 1", 1, 3, OUT);
        }
    }

    /** "third, a SUM, MIN or MAX ..; fourth, as its rows come, .. more rows together than allowed." */
    private static void sumsBeforeRows() {
        FixpointEngine e = Kit.engine(column(1, 2, MOST));
        for (String gather : new String[] {"SUM", "MIN", "MAX"}) {
            String text = "WITH p(x) AS (SELECT 1) SELECT f.a," + gather + "(f.a+#) FROM t0 f";
            Kit.dueRun(e, text.replace("#", "1"), 1, 3, OUT);
            Kit.dueRun(e, text.replace("#", "0"), 1, 3, MORE);
            Kit.dueRun(e, text.replace("#", "0"), 1, 4, "1 1; 2 2; 2147483647 2147483647");
            Kit.dueRun(e, "WITH p(x) AS (SELECT 1) SELECT " + gather + "(f.a+1) FROM t0 f WHERE f.a>2", 1, 1, OUT);
            Kit.dueRun(e, "WITH p(x) AS (SELECT 1) SELECT " + gather + "(f.a+0) FROM t0 f WHERE f.a>2", 1, 1, MORE);
        }
    }

    /** The first error and the fourth: all combinations are looked at before a row comes. */
    private static void itemBeforeRows() {
        FixpointEngine e = Kit.engine(column(1, 2, 3, MOST));
        Kit.dueRun(e, "SELECT f.a+1 FROM t0 f", 1, 1, OUT);
        Kit.dueRun(e, "SELECT f.a+1 FROM t0 f WHERE f.a<9", 1, 2, MORE);
        Kit.dueRun(e, "SELECT f.a FROM t0 f", 1, 3, MORE);
        Kit.dueRun(e, "WITH p(x) AS (SELECT 1) SELECT 1,f.a+1 FROM t0 f", 1, 1, OUT);
        Kit.dueRun(e, "WITH p(x) AS (SELECT f.a+1 FROM t0 f) SELECT 1", 1, 1, OUT);
        Kit.dueRun(e, "WITH p(x) AS (SELECT 1 UNION SELECT f.a+1 FROM t0 f) SELECT 1", 1, 1, OUT);
        Kit.dueRun(e, "WITH RECURSIVE p(x) AS (SELECT 1 UNION SELECT r.x+f.a FROM p r,t0 f) SELECT 1", 2, 2, OUT);
    }

    /** "For each selection, as it is worked out": the errors of one come before those of the next. */
    private static void selectionsInOrder() {
        FixpointEngine e = Kit.engine(column(1, 2, MOST));
        String rows = "SELECT f.a FROM t0 f";
        String range = "SELECT f.a+1 FROM t0 f";
        Kit.dueRun(e, "WITH p(x) AS (" + rows + " UNION " + range + ") SELECT 1", 1, 2, MORE);
        Kit.dueRun(e, "WITH p(x) AS (" + rows + " UNION " + range + ") SELECT 1", 1, 3, OUT);
        Kit.dueRun(e, "WITH p(x) AS (" + range + " UNION " + rows + ") SELECT 1", 1, 2, OUT);
        Kit.dueRun(e, "WITH p(x) AS (" + rows + ") " + range, 1, 2, MORE);
        Kit.dueRun(e, "WITH p(x) AS (" + rows + ") " + range, 1, 3, OUT);
        Kit.dueRun(e, "WITH p(x) AS (" + range + ") " + rows, 1, 2, OUT);
        // The parts of one component in a round, as they stand in the text.
        String pair = "WITH RECURSIVE p(x) AS (# UNION SELECT r.x FROM q r),q(x) AS (% UNION SELECT r.x FROM p r)"
                + " SELECT 1";
        Kit.dueRun(e, pair.replace("#", rows).replace("%", range), 9, 2, MORE);
        Kit.dueRun(e, pair.replace("#", rows).replace("%", range), 9, 3, OUT);
        Kit.dueRun(e, pair.replace("#", range).replace("%", rows), 9, 2, OUT);
    }

    /** "The components are worked out in their order, then the query's selection". */
    private static void componentsInOrder() {
        FixpointEngine e = Kit.engine(column(1, 2, MOST));
        String rows = "(x) AS (SELECT f.a FROM t0 f)";
        String range = "(x) AS (SELECT f.a+1 FROM t0 f)";
        Kit.dueRun(e, "WITH p" + rows + ",q" + range + " SELECT 1", 1, 2, MORE);
        Kit.dueRun(e, "WITH p" + range + ",q" + rows + " SELECT 1", 1, 2, OUT);
        // q comes first, for p needs it.
        String needs = "WITH RECURSIVE p(x) AS (SELECT f.a# FROM t0 f,q g),q";
        Kit.dueRun(e, needs.replace("#", "+1") + rows + " SELECT 1", 1, 2, MORE);
        Kit.dueRun(e, needs.replace("#", "") + range + " SELECT 1", 1, 2, OUT);
        Kit.dueRun(e, "WITH RECURSIVE " + COUNT.replace("#", "5") + ",q" + range + " SELECT 1", 5, 48, MORE);
        Kit.dueRun(e, "WITH RECURSIVE " + COUNT.replace("#", "5") + ",q" + range + " SELECT 1", 6, 48, OUT);
        Kit.dueRun(e, "WITH RECURSIVE " + COUNT.replace("#", "5") + " SELECT f.a+1 FROM t0 f", 5, 48, MORE);
        Kit.dueRun(e, "WITH RECURSIVE " + COUNT.replace("#", "5") + " SELECT f.a+1 FROM t0 f", 6, 48, OUT);
    }

    /** The error of rounds is behind the errors of its round, and before those of the next. */
    private static void roundsBeforeTheNext() {
        FixpointEngine e = Kit.engine(column(MOST - 2));
        String text = "WITH RECURSIVE p(x) AS (SELECT f.a FROM t0 f UNION SELECT r.x+1 FROM p r) SELECT 1";
        Kit.dueRun(e, text, 3, 48, MORE);
        Kit.dueRun(e, text, 4, 48, OUT);
        Kit.dueRun(e, text, 30, 3, OUT);
        Kit.dueRun(e, text, 30, 2, MORE);
        Kit.dueRun(e, text.replace("UNION", "UNION ALL"), 3, 48, MORE);
        Kit.dueRun(e, text.replace("UNION", "UNION ALL"), 4, 48, OUT);
    }

    /** "with UNION only if it is not there yet (all cells equal, NULL to NULL ..)". */
    private static void notThereYet() {
        Integer[][] rows = {{1, 2, 3}, {1, 2, 3}, {1, 2, 4}, {1, 5, 3}, {6, 2, 3}, {null, 2, 3}, {null, 2, 3},
                {1, null, 3}, {1, 2, null}, {null, null, null}, {null, null, null}, {0, 0, 0}};
        FixpointEngine e = Kit.engine(rows);
        String text = "WITH p(x,y,z) AS (SELECT f.a,f.b,f.c FROM t0 f UNION SELECT 1,2,3) SELECT f.x,f.y,f.z FROM p f";
        String due = "NULL NULL NULL; NULL 2 3; 0 0 0; 1 NULL 3; 1 2 NULL; 1 2 3; 1 2 4; 1 5 3; 6 2 3";
        Kit.dueAnswer(e, text, due);
        Kit.dueAnswer(e, text.replace("SELECT 1,2,3", "SELECT f.a,f.b,f.c FROM t0 f"), due);
        Kit.dueAnswer(e, text.replace("SELECT 1,2,3", "SELECT 1,2,5"), due.replace("1 5 3", "1 2 5; 1 5 3"));
    }

    /** "with UNION ALL, or where a part has one selection alone, always." */
    private static void alwaysComes() {
        FixpointEngine e = Kit.engine(column(4, 4, null, null));
        Kit.dueAnswer(e, "WITH p(x) AS (SELECT f.a FROM t0 f) SELECT f.x FROM p f", "NULL; NULL; 4; 4");
        Kit.dueAnswer(e, "WITH p(x) AS (SELECT f.a FROM t0 f UNION SELECT 4) SELECT f.x FROM p f", "NULL; 4");
        Kit.dueAnswer(e, "WITH p(x) AS (SELECT f.a FROM t0 f UNION ALL SELECT 4) SELECT f.x FROM p f",
                "NULL; NULL; 4; 4; 4");
        Kit.dueAnswer(e, "WITH p(x) AS (SELECT 4 UNION ALL SELECT 4 UNION ALL SELECT 4 UNION ALL SELECT 4) SELECT"
                + " COUNT(*) FROM p f", "4");
    }

    /** "a part of the component itself having what it had when the round began". */
    private static void whatItHadWhenTheRoundBegan() {
        FixpointEngine e = new FixpointEngine();
        Kit.dueAnswer(e, "WITH RECURSIVE p(x) AS (SELECT 1 UNION SELECT r.x+1 FROM p r WHERE r.x<4 UNION SELECT r.x+1"
                + " FROM p r WHERE r.x<4) SELECT f.x FROM p f", "1; 2; 3; 4");
        Kit.due("one step a round", Kit.rounds(e, 0), "5: 1 1 1 1 0");
        Kit.dueAnswer(e, "WITH RECURSIVE p(x) AS (SELECT 1 UNION SELECT r.x+1 FROM q r WHERE r.x<4),q(x) AS (SELECT 1"
                + " UNION SELECT r.x+1 FROM p r WHERE r.x<4) SELECT COUNT(*) FROM p f,q g", "16");
        Kit.due("both parts in a round", Kit.rounds(e, 0), "5: 2 2 2 2 0");
        // A part of another component has all that it has in the end.
        Kit.dueAnswer(e, "WITH RECURSIVE " + COUNT.replace("#", "4") + ",q(x) AS (SELECT f.x FROM p f UNION"
                + " SELECT r.x+4 FROM q r WHERE r.x<5) SELECT COUNT(*) FROM q f", "8");
        Kit.due("in its first round", Kit.rounds(e, 1), "3: 4 4 0");
    }

    /** "With UNION ALL: in round 1 selections that name the part give nothing". */
    private static void unionAllInRoundOne() {
        FixpointEngine e = new FixpointEngine();
        Kit.dueAnswer(e, "WITH RECURSIVE p(x) AS (SELECT 1 UNION ALL SELECT r.x+10 FROM p r WHERE r.x<9 UNION ALL"
                + " SELECT 2"
                + " UNION ALL SELECT r.x+20 FROM p r WHERE r.x<9) SELECT f.x FROM p f", "1; 2; 11; 12; 21; 22");
        Kit.due("two, then four", Kit.rounds(e, 0), "3: 2 4 0");
    }

    /** "in later rounds only these are worked out, and the part then has .. just the rows .. of the round before". */
    private static void unionAllInLaterRounds() {
        FixpointEngine e = new FixpointEngine();
        Kit.dueAnswer(e, "WITH RECURSIVE p(x) AS (SELECT 1 UNION ALL SELECT 1 UNION ALL SELECT r.x+1 FROM p r"
                + " WHERE r.x<3) SELECT f.x FROM p f", "1; 1; 2; 2; 3; 3");
        Kit.due("two each", Kit.rounds(e, 0), "4: 2 2 2 0");
        // The same rows again and again would come without end.
        Kit.dueRun(e, "WITH RECURSIVE p(x) AS (SELECT 1 UNION ALL SELECT r.x FROM p r) SELECT 1", 29, 48, MORE);
        Kit.dueRun(e, "WITH RECURSIVE p(x) AS (SELECT 1 UNION SELECT r.x FROM p r) SELECT 1", 2, 2, "1");
    }

    /** What earlier queries and runs left in the object touches no later one. */
    private static void runsLeaveNothing() {
        FixpointEngine e = Kit.engine(new Integer[][] {{1, 2, 3}, {1, 5, 6}, {2, 8, 7}});
        String wide = "WITH RECURSIVE p(x,y,z) AS (SELECT f.a,f.b,f.c FROM t0 f UNION SELECT r.x,r.y,r.z FROM p r)"
                + " CYCLE y SET m SELECT f.x,f.y,f.z,f.m FROM p f";
        String narrow = "WITH p(x) AS (SELECT f.a FROM t0 f UNION SELECT 2 UNION SELECT 3) SELECT f.x FROM p f";
        for (int i = 0; i < 3; i++) {
            Kit.dueAnswer(e, wide, "1 2 3 0; 1 2 3 1; 1 5 6 0; 1 5 6 1; 2 8 7 0; 2 8 7 1");
            Kit.dueAnswer(e, narrow, "1; 2; 3");
            Kit.dueRun(e, narrow, 1, 5, MORE);
            Kit.due("again", Kit.run(e, 1, 6), "1; 2; 3");
        }
    }
}
