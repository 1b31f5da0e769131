/** Promise 9 and what Terms say of VALUES: NULL, expressions at the edge of the ints, groups without combinations. */
final class EdgeValueTest {
    private static final int MOST = Integer.MAX_VALUE;
    private static final int LEAST = Integer.MIN_VALUE;
    private static final String OUT = "ArithmeticException";

    private EdgeValueTest() {
    }

    public static void main(String[] args) {
        expressionWithNull();
        workedOutExactly();
        comparisonHolds();
        isNullHolds();
        notExistsWithoutRows();
        notExistsNeedsAllConditions();
        combinationOfNone();
        sourcesWithoutRows();
        allConditionsHold();
        rowForEachCombination();
        equalOtherItems();
        oneGroupOfAll();
        noCombinationsNoGroups();
        countOfCombinations();
        ofThoseThatAreNotNull();
        groupsBeginAnew();
        itemOutOfRange();
        itemOfAGroupOutOfRange();
        itemThatIsNull();
        itemOfNoCombination();
        sumOutOfRange();
        leastAndGreatestOutOfRange();
        madeOfWhatIsOutOfRange();
        sumThatLooksLikeNull();
        Kit.end();
    }

    private static void due(Integer[][] rows, String text, String answer) {
        Kit.dueAnswer(Kit.engine(rows), text, answer);
    }

    private static void due(String text, String answer) {
        due(new Integer[][] {{1, 2}, {2, 1}, {null, 3}}, text, answer);
    }

    private static Integer[][] column(Integer... cells) {
        Integer[][] rows = new Integer[cells.length][];
        for (int i = 0; i < cells.length; i++) {
            rows[i] = new Integer[] {cells[i]};
        }
        return rows;
    }

    /** "An expression with NULL is NULL": at each place of one to four operands. */
    private static void expressionWithNull() {
        for (String sign : new String[] {"+", "-"}) {
            for (int count = 1; count <= 4; count++) {
                for (int at = 0; at < count; at++) {
                    StringBuilder all = new StringBuilder();
                    for (int i = 0; i < count; i++) {
                        all.append(i == 0 ? "" : sign).append(i == at ? "NULL" : "1");
                    }
                    due("SELECT " + all, "NULL");
                    due("SELECT 1 WHERE " + all + " IS NULL", "1");
                    due("SELECT SUM(" + all + "),COUNT(*)", "NULL 1");
                }
            }
        }
        due("SELECT NULL+NULL-NULL-NULL", "NULL");
        due("SELECT f.a+f.b,f.b-f.a,f.b FROM t0 f", "NULL NULL 3; 3 -1 1; 3 1 2");
    }

    /** "others are worked out exactly." */
    private static void workedOutExactly() {
        Integer[][] ends = column(MOST, LEAST);
        due(ends, "SELECT 1 FROM t0 f WHERE f.a+1>f.a", "1; 1");
        due(ends, "SELECT 1 FROM t0 f WHERE f.a-1<f.a", "1; 1");
        due(ends, "SELECT f.a FROM t0 f WHERE f.a+f.a+f.a+f.a>f.a+f.a+f.a", "2147483647");
        due(ends, "SELECT f.a FROM t0 f WHERE f.a+f.a+f.a+f.a<0", "-2147483648");
        due(ends, "SELECT f.a FROM t0 f WHERE f.a+f.a=0", "");
        due(ends, "SELECT f.a FROM t0 f WHERE f.a+f.a=0-2", "");
        due(ends, "SELECT f.a FROM t0 f WHERE 0-f.a=f.a", "");
        due(ends, "SELECT f.a FROM t0 f WHERE 0-f.a-1=f.a+f.a-f.a", "");
        due(ends, "SELECT f.a,g.a FROM t0 f,t0 g WHERE f.a+g.a=0-1", "-2147483648 2147483647; 2147483647 -2147483648");
        due("SELECT 9-3-2,9-3+2,0-1,9999+9999+9999+9999", "4 8 -1 39996");
    }

    /** "A comparison holds if neither side is NULL and it is so." */
    private static void comparisonHolds() {
        String[] sides = {"NULL", "1", "2", "1-2"};
        int[] values = {0, 1, 2, -1};
        for (int l = 0; l < 4; l++) {
            for (int r = 0; r < 4; r++) {
                boolean both = l > 0 && r > 0;
                dueHolds(sides[l] + "=" + sides[r], both && values[l] == values[r]);
                dueHolds(sides[l] + "<>" + sides[r], both && values[l] != values[r]);
                dueHolds(sides[l] + "<" + sides[r], both && values[l] < values[r]);
                dueHolds(sides[l] + ">" + sides[r], both && values[l] > values[r]);
            }
        }
    }

    private static void dueHolds(String condition, boolean holds) {
        due("SELECT 1 WHERE " + condition, holds ? "1" : "");
        due("SELECT 1 WHERE NOT EXISTS(SELECT 1 FROM t0 f WHERE " + condition + ")", holds ? "" : "1");
    }

    /** "IS NULL holds for NULL." */
    private static void isNullHolds() {
        dueHolds("NULL IS NULL", true);
        dueHolds("0 IS NULL", false);
        dueHolds("1-1 IS NULL", false);
        dueHolds("1-NULL IS NULL", true);
        due("SELECT f.b FROM t0 f WHERE f.a IS NULL", "3");
        due("SELECT f.b FROM t0 f WHERE f.b IS NULL", "");
        due(column(LEAST, MOST, 0), "SELECT f.a FROM t0 f WHERE f.a IS NULL", "");
    }

    /** "NOT EXISTS holds if no row of its source makes all its conditions hold": a source without rows. */
    private static void notExistsWithoutRows() {
        FixpointEngine e = Kit.columns(1);
        String bare = "SELECT 7 WHERE NOT EXISTS(SELECT 1 FROM t0 f)";
        String with = "SELECT 7 WHERE NOT EXISTS(SELECT 1 FROM t0 f WHERE f.a IS NULL)";
        Kit.dueAnswer(e, bare, "7");
        Kit.dueAnswer(e, with, "7");
        e.row(0, 1, 0, 0, 0);
        Kit.dueAnswer(e, bare, "");
        Kit.dueAnswer(e, with, "7");
        e.row(0, 1, 0, 0, 1);
        Kit.dueAnswer(e, bare, "");
        Kit.dueAnswer(e, with, "");
        e.clear(0);
        Kit.dueAnswer(e, bare, "7");
        Kit.dueAnswer(e, "WITH p(x) AS (SELECT 1 WHERE 1=2) SELECT 7 WHERE NOT EXISTS(SELECT 1 FROM p f)", "7");
        Kit.dueAnswer(e, "WITH p(x) AS (SELECT 1) SELECT 7 WHERE NOT EXISTS(SELECT 1 FROM p f)", "");
    }

    private static void notExistsNeedsAllConditions() {
        due("SELECT 7 WHERE NOT EXISTS(SELECT 1 FROM t0 f WHERE f.a=1 AND f.b=2)", "");
        due("SELECT 7 WHERE NOT EXISTS(SELECT 1 FROM t0 f WHERE f.a=1 AND f.b=1)", "7");
        due("SELECT 7 WHERE NOT EXISTS(SELECT 1 FROM t0 f WHERE f.a=1 AND f.b=2 AND 1=2)", "7");
        due("SELECT 7 WHERE NOT EXISTS(SELECT 1 FROM t0 f WHERE 1=2 AND f.a=1 AND f.b=2)", "7");
        due("SELECT 7 WHERE NOT EXISTS(SELECT 1 FROM t0 f WHERE f.a IS NULL AND f.b=3 AND f.b>2)", "");
        due("SELECT f.b FROM t0 f WHERE NOT EXISTS(SELECT 1 FROM t0 g WHERE g.a=f.a)", "3");
        due("SELECT f.b FROM t0 f WHERE NOT EXISTS(SELECT 1 FROM t0 g WHERE g.b>f.b)", "3");
        due("SELECT f.b,g.b FROM t0 f,t0 g WHERE NOT EXISTS(SELECT 1 FROM t0 h WHERE f.b<h.b) AND NOT EXISTS("
                + "SELECT 1 FROM t0 h WHERE h.b<g.b)", "3 1");
    }

    /** "(without sources there is one, of none)". */
    private static void combinationOfNone() {
        due("SELECT 5", "5");
        due("SELECT 5 WHERE 1=1", "5");
        due("SELECT 5 WHERE 1=2", "");
        due("SELECT COUNT(*)", "1");
        due("SELECT COUNT(*) WHERE 1=2", "0");
        due("SELECT 5,COUNT(*),SUM(3)", "5 1 3");
        due("SELECT 5,COUNT(*) WHERE 1=2", "");
    }

    /** "A COMBINATION of a selection is one row of each of its sources". */
    private static void sourcesWithoutRows() {
        String[] texts = {"SELECT 1 FROM t0 f", "SELECT 1 FROM t0 f,t1 g", "SELECT 1 FROM t1 g,t0 f", "SELECT 1 FROM"
                + " t1 g,t0 f,t1 h", "SELECT 1 FROM t1 f,t1 g,t0 h"};
        for (String text : texts) {
            FixpointEngine e = Kit.columns(1, 1);
            e.row(1, 1, 0, 0, 0);
            Kit.dueAnswer(e, text, "");
            e.row(0, 1, 0, 0, 0);
            Kit.dueAnswer(e, text, "1");
            e.row(0, 1, 0, 0, 0);
            Kit.dueAnswer(e, text, "1; 1");
        }
        due("SELECT COUNT(*) FROM t0 f", "3");
        due("SELECT COUNT(*) FROM t0 f,t0 g", "9");
        due("SELECT COUNT(*) FROM t0 f,t0 g,t0 h", "27");
        FixpointEngine full = Kit.columns(1);
        for (int i = 0; i < 16; i++) {
            full.row(0, i, 0, 0, 0);
        }
        Kit.dueAnswer(full, "SELECT COUNT(*),SUM(f.a+g.a+h.a),MAX(f.a+g.a-h.a) FROM t0 f,t0 g,t0 h", "4096 92160 30");
    }

    /** "for which all conditions hold": the one that does not may be any of the six. */
    private static void allConditionsHold() {
        for (int wrong = 0; wrong <= 6; wrong++) {
            StringBuilder all = new StringBuilder();
            for (int i = 0; i < 6; i++) {
                all.append(i == 0 ? "" : " AND ").append(i == wrong ? "f.a>1" : "f.a=1");
            }
            due("SELECT f.b FROM t0 f WHERE " + all, wrong == 6 ? "2" : "");
        }
    }

    /** "Without COUNT, SUM, MIN and MAX each combination gives a row: its items." */
    private static void rowForEachCombination() {
        due(column(4, 4, 4), "SELECT f.a FROM t0 f", "4; 4; 4");
        due(column(4, null, null), "SELECT 1 FROM t0 f", "1; 1; 1");
        due(column(4, null), "SELECT f.a,g.a,f.a,9 FROM t0 f,t0 g",
                "NULL NULL NULL 9; NULL 4 NULL 9; 4 NULL 4 9; 4 4 4 9");
    }

    /** "combinations with equal other items (NULL is equal to NULL) are a GROUP, and each group gives a row". */
    private static void equalOtherItems() {
        Integer[][] rows = {{1, 1, 5}, {1, 1, 6}, {1, 2, 7}, {2, 1, 8}, {null, 1, 9}, {null, 1, 10}, {1, null, 11},
            {null, null, 12}, {null, null, 13}, {0, 0, 14}};
        due(rows, "SELECT f.a,f.b,COUNT(*),SUM(f.c) FROM t0 f",
                "NULL NULL 2 25; NULL 1 2 19; 0 0 1 14; 1 NULL 1 11; 1 1 2 11; 1 2 1 7; 2 1 1 8");
        due(rows, "SELECT COUNT(*),f.a FROM t0 f", "1 0; 1 2; 4 NULL; 4 1");
        due(rows, "SELECT f.a-f.b,MIN(f.c),MAX(f.c) FROM t0 f", "NULL 9 13; -1 7 7; 0 5 14; 1 8 8");
        due(rows, "SELECT 3,COUNT(*) FROM t0 f", "3 10");
        due(rows, "SELECT NULL,COUNT(*) FROM t0 f", "NULL 10");
    }

    /** "if all items are COUNT, SUM, MIN or MAX, there is just one group, even without combinations." */
    private static void oneGroupOfAll() {
        due("SELECT COUNT(*) FROM t0 f WHERE 1=2", "0");
        due("SELECT SUM(f.b) FROM t0 f WHERE 1=2", "NULL");
        due("SELECT MIN(f.b) FROM t0 f WHERE 1=2", "NULL");
        due("SELECT MAX(f.b) FROM t0 f WHERE 1=2", "NULL");
        due("SELECT MAX(1),COUNT(*),SUM(2),COUNT(*) FROM t0 f WHERE 1=2", "NULL 0 NULL 0");
        due("SELECT COUNT(*),SUM(f.b),MIN(f.b),MAX(f.b) FROM t0 f", "3 6 1 3");
        Kit.dueAnswer(Kit.columns(1), "SELECT COUNT(*),MIN(f.a) FROM t0 f", "0 NULL");
        Kit.dueAnswer(Kit.columns(1), "WITH p(x) AS (SELECT COUNT(*) FROM t0 f) SELECT f.x FROM p f", "0");
    }

    private static void noCombinationsNoGroups() {
        due("SELECT COUNT(*),1 FROM t0 f WHERE 1=2", "");
        due("SELECT NULL,COUNT(*) FROM t0 f WHERE 1=2", "");
        due("SELECT SUM(f.a),MIN(f.a),MAX(f.a),f.a FROM t0 f WHERE 1=2", "");
        Kit.dueAnswer(Kit.columns(1), "SELECT COUNT(*),f.a FROM t0 f", "");
    }

    /** "COUNT: how many combinations". */
    private static void countOfCombinations() {
        due(column(null, null), "SELECT COUNT(*) FROM t0 f", "2");
        due(column(null, 1), "SELECT f.a,COUNT(*) FROM t0 f,t0 g", "NULL 2; 1 2");
        due(column(5, 5), "SELECT COUNT(*),COUNT(*),COUNT(*),COUNT(*) FROM t0 f,t0 g,t0 h", "8 8 8 8");
    }

    /** "SUM, MIN, MAX: of those of its expression that are not NULL; NULL if there are none." */
    private static void ofThoseThatAreNotNull() {
        due(column(null, null), "SELECT SUM(f.a),MIN(f.a),MAX(f.a) FROM t0 f", "NULL NULL NULL");
        due(column(null, 0), "SELECT SUM(f.a),MIN(f.a),MAX(f.a) FROM t0 f", "0 0 0");
        due(column(null, -4, null, -7), "SELECT SUM(f.a),MIN(f.a),MAX(f.a) FROM t0 f", "-11 -7 -4");
        due(column(3, 8, null, 5), "SELECT SUM(f.a),MIN(f.a),MAX(f.a) FROM t0 f", "16 3 8");
        due(new Integer[][] {{1, null}, {1, null}, {2, null}, {2, 6}, {2, 4}},
                "SELECT f.a,SUM(f.b),MIN(f.b),MAX(f.b) FROM t0 f", "1 NULL NULL NULL; 2 10 4 6");
        due(column(3), "SELECT SUM(NULL),MIN(f.a+NULL),MAX(NULL-f.a) FROM t0 f", "NULL NULL NULL");
    }

    /** The groups of a selection know nothing of those that were worked out before. */
    private static void groupsBeginAnew() {
        FixpointEngine e = Kit.engine(new Integer[][] {{1, 5}, {2, 6}, {3, -7}});
        String text = "SELECT f.a,SUM(f.b),MIN(f.b),MAX(f.b) FROM t0 f";
        Kit.dueAnswer(e, text, "1 5 5 5; 2 6 6 6; 3 -7 -7 -7");
        e.clear(0);
        e.row(0, 1, 0, 0, 2);
        e.row(0, 2, 9, 0, 0);
        e.row(0, 3, -9, 0, 0);
        Kit.due("other rows", Kit.run(e, 1, 3), "1 NULL NULL NULL; 2 9 9 9; 3 -9 -9 -9");
        Kit.dueAnswer(e, "WITH p(x) AS (SELECT SUM(f.b) FROM t0 f),q(x) AS (SELECT MIN(f.b) FROM t0 f WHERE f.a=1)"
                + " SELECT MAX(f.x),MAX(g.x) FROM p f,q g", "0 NULL");
    }

    /** "An item that is no int (below -2147483648, above 2147483647) is OUT OF RANGE." */
    private static void itemOutOfRange() {
        Integer[][] most = column(MOST);
        Integer[][] least = column(LEAST);
        due(most, "SELECT f.a+0 FROM t0 f", "2147483647");
        due(most, "SELECT f.a+1 FROM t0 f", OUT);
        due(most, "SELECT f.a+1-1 FROM t0 f", "2147483647");
        due(most, "SELECT 0-f.a FROM t0 f", "-2147483647");
        due(most, "SELECT 0-f.a-1 FROM t0 f", "-2147483648");
        due(most, "SELECT 0-f.a-2 FROM t0 f", OUT);
        due(most, "SELECT f.a+f.a+f.a+f.a FROM t0 f", OUT);
        due(most, "SELECT f.a+f.a+2-f.a FROM t0 f", OUT);
        due(least, "SELECT f.a-0 FROM t0 f", "-2147483648");
        due(least, "SELECT f.a-1 FROM t0 f", OUT);
        due(least, "SELECT f.a-1+1 FROM t0 f", "-2147483648");
        due(least, "SELECT 0-f.a FROM t0 f", OUT);
        due(least, "SELECT 0-f.a-1 FROM t0 f", "2147483647");
        due(least, "SELECT f.a+f.a FROM t0 f", OUT);
        due(least, "SELECT 1,2,3,f.a-1 FROM t0 f", OUT);
        due(least, "WITH p(x,y,z) AS (SELECT 1,2,f.a-1 FROM t0 f) SELECT 1", OUT);
        due(least, "WITH p(x,y,z) AS (SELECT 1,2,f.a FROM t0 f) SELECT f.z FROM p f", "-2147483648");
        // One of many combinations is enough.
        due(column(1, 2, MOST, 3), "SELECT f.a+1 FROM t0 f", OUT);
    }

    private static void itemOfAGroupOutOfRange() {
        due(column(MOST, MOST), "SELECT f.a,COUNT(*) FROM t0 f", "2147483647 2");
        due(column(MOST - 1, MOST), "SELECT f.a+1,COUNT(*) FROM t0 f", OUT);
        due(column(LEAST, 5), "SELECT MIN(f.a),f.a-1 FROM t0 f", OUT);
        due(column(LEAST + 1, 5), "SELECT MIN(f.a),f.a-1 FROM t0 f", "-2147483647 -2147483648; 5 4");
    }

    private static void itemThatIsNull() {
        due(column(MOST), "SELECT f.a+f.a+NULL FROM t0 f", "NULL");
        due(column(MOST), "SELECT NULL+f.a+1,SUM(f.a+f.a+NULL) FROM t0 f", "NULL NULL");
        due(new Integer[][] {{MOST, null}}, "SELECT f.a+f.a-f.b FROM t0 f", "NULL");
    }

    /** What the conditions leave out is no combination, and conditions themselves are never out of range. */
    private static void itemOfNoCombination() {
        due(column(1, MOST), "SELECT f.a+1 FROM t0 f WHERE f.a<2", "2");
        due(column(1, MOST), "SELECT f.a+1 FROM t0 f WHERE f.a+1<2147-2000", "2");
        due(column(1, MOST), "SELECT f.a+1 FROM t0 f WHERE 1=2", "");
        due(column(1, MOST), "SELECT f.a+1 FROM t0 f WHERE NOT EXISTS(SELECT 1 FROM t0 g WHERE g.a<f.a)", "2");
        due(column(1, MOST), "SELECT f.a+1,COUNT(*) FROM t0 f WHERE f.a<2", "2 1");
        due(column(MOST), "SELECT 1 FROM t0 f WHERE f.a+f.a+f.a+f.a>f.a", "1");
    }

    private static void sumOutOfRange() {
        due(column(MOST - 1, 1), "SELECT SUM(f.a) FROM t0 f", "2147483647");
        due(column(MOST, 1), "SELECT SUM(f.a) FROM t0 f", OUT);
        due(column(MOST, 1, -1), "SELECT SUM(f.a) FROM t0 f", "2147483647");
        due(column(LEAST + 1, -1), "SELECT SUM(f.a) FROM t0 f", "-2147483648");
        due(column(LEAST, -1), "SELECT SUM(f.a) FROM t0 f", OUT);
        due(column(LEAST, -1, 1), "SELECT SUM(f.a) FROM t0 f", "-2147483648");
        due(column(MOST, MOST, LEAST, LEAST, 2), "SELECT SUM(f.a) FROM t0 f", "0");
        due(new Integer[][] {{1, 5}, {2, MOST}, {2, 1}}, "SELECT f.a,SUM(f.b) FROM t0 f", OUT);
        due(new Integer[][] {{1, 1}, {2, MOST}, {3, 1}}, "SELECT f.a,SUM(f.b) FROM t0 f", "1 1; 2 2147483647; 3 1");
        due(column(MOST, 1), "WITH p(x) AS (SELECT SUM(f.a) FROM t0 f) SELECT 1", OUT);
    }

    private static void leastAndGreatestOutOfRange() {
        due(column(MOST), "SELECT MIN(f.a+1) FROM t0 f", OUT);
        due(column(MOST), "SELECT MAX(f.a+1) FROM t0 f", OUT);
        due(column(LEAST), "SELECT MIN(f.a-1) FROM t0 f", OUT);
        due(column(LEAST), "SELECT MAX(f.a-1) FROM t0 f", OUT);
        due(column(MOST - 1), "SELECT MIN(f.a+1),MAX(f.a+1) FROM t0 f", "2147483647 2147483647");
        due(column(LEAST + 1), "SELECT MIN(f.a-1),MAX(f.a-1) FROM t0 f", "-2147483648 -2147483648");
    }

    /** "(what they are made of need not be in range)". */
    private static void madeOfWhatIsOutOfRange() {
        due(column(MOST, 0), "SELECT MIN(f.a+1) FROM t0 f", "1");
        due(column(MOST, 0), "SELECT MAX(f.a+1) FROM t0 f", OUT);
        due(column(LEAST, 0), "SELECT MAX(f.a-1) FROM t0 f", "-1");
        due(column(LEAST, 0), "SELECT MIN(f.a-1) FROM t0 f", OUT);
        due(column(MOST, LEAST), "SELECT SUM(f.a+f.a) FROM t0 f", "-2");
        due(column(MOST, LEAST), "SELECT SUM(f.a+f.a+f.a+f.a) FROM t0 f", "-4");
        due(column(MOST, LEAST), "SELECT SUM(f.a+f.a),COUNT(*),MIN(1),MAX(1) FROM t0 f", "-2 2 1 1");
    }

    /** A sum may be or pass 1L << 40, which answers for NULL: it is a number still. */
    private static void sumThatLooksLikeNull() {
        FixpointEngine e = Kit.columns(1, 1, 2);
        for (int i = 0; i < 16; i++) {
            e.row(0, LEAST, 0, 0, 0);
        }
        e.row(1, 1, 0, 0, 0);
        e.row(1, 2, 0, 0, 0);
        for (int i = 0; i < 4; i++) {
            e.row(2, i < 2 ? 0 : LEAST, i < 2 ? LEAST : 0, 0, 0);
        }
        Kit.dueAnswer(e, "SELECT SUM(0-f.a) FROM t0 f,t0 g,t1 h", OUT);
        Kit.dueAnswer(e, "WITH p(x) AS (SELECT SUM(0-f.a) FROM t0 f,t0 g,t1 h) SELECT f.x FROM p f", OUT);
        Kit.dueAnswer(e, "SELECT COUNT(*),SUM(h.a-h.b) FROM t2 h,t0 f,t0 g", "1024 0");
        Kit.dueAnswer(e, "SELECT COUNT(*),SUM(h.b-h.a) FROM t2 h,t0 f,t0 g", "1024 0");
    }
}
