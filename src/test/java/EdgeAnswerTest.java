import java.util.NoSuchElementException;

/** Promises 6, 8 and 10 to 12, and what Terms say of components and THE ANSWER: each bound on both of its sides. */
final class EdgeAnswerTest {
    private static final int MOST = Integer.MAX_VALUE;
    private static final int LEAST = Integer.MIN_VALUE;

    private EdgeAnswerTest() {
    }

    public static void main(String[] args) {
        howManyParts();
        noSuchPart();
        anotherWhat();
        columnsOfAPart();
        recursiveInOneOrMoreSteps();
        orderOfComponents();
        rowsOfTheAnswer();
        itemsOfTheAnswer();
        answerWithoutRows();
        sizeOfParts();
        componentsOfRounds();
        roundsOfRounds();
        noAnswer();
        answerStays();
        answerIsTakenAway();
        eachAsOftenAsItComes();
        nullBeforeAllInts();
        itemsFromTheLeft();
        orderByFirst();
        orderByBeyondItems();
        fullAnswer();
        manyTokens();
        manyCalls();
        Kit.end();
    }

    private static String one(String name) {
        return name + "(x) AS (SELECT 1)";
    }

    /** Of each part its component and whether it is recursive. */
    private static void dueParts(String parts, String due) {
        FixpointEngine e = Kit.columns(1);
        String count = Kit.prepare(e, "WITH RECURSIVE " + parts + " SELECT 1");
        StringBuilder told = new StringBuilder();
        for (int k = 0; !count.startsWith("fault") && k < Integer.parseInt(count); k++) {
            told.append(k == 0 ? "" : " ").append(e.part(k, 0)).append(e.part(k, 1) == 1 ? "r" : "");
        }
        Kit.due(parts, told, due);
    }

    private static void dueOut(String what, java.util.concurrent.Callable<?> call) {
        Kit.dueThrown(what, call, IndexOutOfBoundsException.class);
    }

    /** "Reads the text as a query ..: how many parts it has; it is the query then." */
    private static void howManyParts() {
        FixpointEngine e = new FixpointEngine();
        String[] texts = {"SELECT 1", "WITH " + one("p") + " SELECT 1",
                "WITH " + one("p") + "," + one("q") + " SELECT 1",
            "WITH " + one("p") + "," + one("q") + "," + one("r") + " SELECT 1",
            "WITH " + one("p") + "," + one("q") + "," + one("r") + "," + one("s") + " SELECT 1"};
        for (int parts = 0; parts <= 4; parts++) {
            Kit.dueFine(e, parts, texts[parts]);
            Kit.dueNoAnswer("a query of " + parts, e);
            for (int k = 0; k < parts; k++) {
                Kit.due("part " + k, e.part(k, 0), k);
            }
            int none = parts;
            Kit.dueThrown("no part " + none, () -> e.part(none, 0), NoSuchElementException.class);
        }
    }

    /** "NoSuchElementException: there is no query, or no such part". */
    private static void noSuchPart() {
        FixpointEngine e = new FixpointEngine();
        int[] far = {-1, 4, LEAST, MOST};
        Kit.dueNoQuery("a new object", e);
        Kit.dueThrown("no query: another what", () -> e.part(0, 3), NoSuchElementException.class);
        Kit.dueFine(e, 4, "WITH " + one("p") + "," + one("q") + "," + one("r") + "," + one("s") + " SELECT 1");
        for (int k : far) {
            for (int what = -1; what <= 3; what++) {
                int asked = what;
                Kit.dueThrown("part(" + k + ", " + asked + ")", () -> e.part(k, asked), NoSuchElementException.class);
            }
        }
        Kit.due("the first", e.part(0, 0), 0);
        Kit.due("the last", e.part(3, 0), 3);
        Kit.dueFine(e, 0, "SELECT 1");
        Kit.dueThrown("a query without parts", () -> e.part(0, 0), NoSuchElementException.class);
        Kit.dueFault(e, 1, "SELECT ^");
        Kit.dueNoQuery("a faulty text", e);
    }

    /** "IllegalArgumentException: another what." */
    private static void anotherWhat() {
        FixpointEngine e = new FixpointEngine();
        Kit.dueFine(e, 2, "WITH " + one("p") + "," + one("q") + " SELECT 1");
        for (int what : new int[] {-1, 3, 4, LEAST, MOST}) {
            for (int k = 0; k < 2; k++) {
                int part = k;
                Kit.dueThrown("part(" + part + ", " + what + ")", () -> e.part(part, what),
                        IllegalArgumentException.class);
            }
        }
        Kit.due("what 0, 1, 2", e.part(1, 0) + " " + e.part(1, 1) + " " + e.part(1, 2), "1 0 1");
        Kit.due("the query stays", Kit.run(e, 1, 3), "1");
    }

    /** "2 how many columns it has, MARK counted". */
    private static void columnsOfAPart() {
        String[] names = {"x", "x,y", "x,y,z"};
        String[] items = {"1", "1,2", "1,2,3"};
        String[] tails = {"", " SEARCH DEPTH FIRST BY x SET k", " CYCLE x SET m",
                " SEARCH BREADTH FIRST BY x SET k CYCLE x SET m"};
        for (int i = 0; i < 3; i++) {
            for (int tail = 0; tail < 4; tail++) {
                FixpointEngine e = new FixpointEngine();
                Kit.dueFine(e, 1, "WITH RECURSIVE p(" + names[i] + ") AS (SELECT " + items[i] + " UNION SELECT "
                        + items[i] + " FROM p r)" + tails[tail] + " SELECT 1");
                Kit.due(names[i] + tails[tail], e.part(0, 2), i + 1 + tail / 2);
            }
        }
    }

    /** "Parts that need one another .. are one COMPONENT; a part that needs itself so is RECURSIVE". */
    private static void recursiveInOneOrMoreSteps() {
        String step = "(x) AS (SELECT 1 UNION SELECT f.x FROM # f)";
        String p = "p" + step;
        String q = "q" + step;
        String r = "r" + step;
        String s = "s" + step;
        dueParts(one("p"), "0");
        dueParts(p.replace('#', 'p'), "0r");
        dueParts(p.replace("#", "t0").replace("f.x", "f.a"), "0");
        dueParts(p.replace('#', 'q') + "," + q.replace('#', 'p'), "0r 0r");
        dueParts(p.replace('#', 'q') + "," + q.replace('#', 'r') + "," + r.replace('#', 'p'), "0r 0r 0r");
        dueParts(p.replace('#', 'q') + "," + q.replace('#', 'r') + "," + r.replace('#', 's') + ","
                + s.replace('#', 'p'),
                "0r 0r 0r 0r");
        dueParts(p.replace('#', 's') + "," + q.replace('#', 'p') + "," + r.replace('#', 'q') + ","
                + s.replace('#', 'r'),
                "0r 0r 0r 0r");
        dueParts(p.replace('#', 'r') + "," + q.replace('#', 's') + "," + r.replace('#', 'p') + ","
                + s.replace('#', 'q'),
                "0r 1r 0r 1r");
        // A part that needs a recursive one, or is needed by it, is none by that.
        dueParts(p.replace('#', 'p') + "," + q.replace('#', 'p') + "," + r.replace('#', 'q'), "0r 1 2");
        dueParts(p.replace('#', 'q') + "," + q.replace('#', 'q') + "," + r.replace('#', 's') + "," + one("s"),
                "1 0r 3 2");
        dueParts(p.replace('#', 'p') + "," + q.replace('#', 'q'), "0r 1r");
        // NOT EXISTS needs, too.
        dueParts("p(x) AS (SELECT 1 WHERE NOT EXISTS(SELECT 1 FROM q f))," + one("q"), "1 0");
        // The query's own selection makes no need.
        FixpointEngine e = new FixpointEngine();
        Kit.dueFine(e, 2, "WITH " + one("p") + "," + one("q") + " SELECT 1 FROM q f,q g WHERE NOT EXISTS(SELECT 1"
                + " FROM q h)");
        Kit.due("p first", e.part(0, 0) + " " + e.part(1, 0), "0 1");
    }

    /** "again and again comes, of those all of whose .. components that they need have come, .. the first part". */
    private static void orderOfComponents() {
        String[] names = {"p", "q", "r", "s"};
        // Each part needs just the next one: the last comes first.
        StringBuilder back = new StringBuilder();
        StringBuilder beside = new StringBuilder();
        for (int i = 0; i < 4; i++) {
            back.append(i == 0 ? "" : ",").append(i < 3 ? names[i] + "(x) AS (SELECT f.x FROM " + names[i + 1] + " f)"
                    : one("s"));
            beside.append(i == 0 ? "" : ",").append(one(names[i]));
        }
        dueParts(back.toString(), "3 2 1 0");
        dueParts(beside.toString(), "0 1 2 3");
        dueParts("p(x) AS (SELECT f.x FROM s f)," + one("q") + "," + one("r") + "," + one("s"), "3 0 1 2");
        dueParts("p(x) AS (SELECT f.x FROM q f)," + one("q") + "," + one("r") + "," + one("s"), "1 0 2 3");
        dueParts("p(x) AS (SELECT f.x FROM r f),q(x) AS (SELECT f.x FROM p f)," + one("r") + "," + one("s"), "1 2 0 3");
        dueParts("p(x) AS (SELECT f.x FROM q f,s g)," + one("q") + "," + one("r") + "," + one("s"), "3 0 1 2");
        // A component stands where its first part stands, and waits for all that any of its parts needs.
        String p = "p(x) AS (SELECT 1 UNION SELECT f.x FROM s f)";
        String s = "s(x) AS (SELECT 1 UNION SELECT f.x FROM p f)";
        dueParts(p + "," + one("q") + "," + one("r") + "," + s, "0r 1 2 0r");
        dueParts(p + "," + one("q") + "," + one("r") + "," + s.replace("p f", "p f,r g"), "2r 0 1 2r");
        dueParts(p + "," + one("q") + "," + one("r") + "," + s.replace("p f", "p f,q g"), "1r 0 2 1r");
        dueParts(one("q") + "," + s.replace("p f", "p f,q g") + "," + p + ",r(x) AS (SELECT f.x FROM s f)",
                "0 1r 1r 2");
    }

    private static FixpointEngine answered() {
        FixpointEngine e = Kit.engine(new Integer[][] {{5}, {null}, {7}});
        Kit.dueFine(e, 2, "WITH RECURSIVE p(x) AS (SELECT 1 UNION SELECT r.x+1 FROM p r WHERE r.x<3),q(x) AS"
                + " (SELECT f.a FROM t0 f) SELECT f.x,g.x,9 FROM p f,q g WHERE f.x<3");
        Kit.due("six rows", Kit.run(e, 4, 12), "1 NULL 9; 1 5 9; 1 7 9; 2 NULL 9; 2 5 9; 2 7 9");
        return e;
    }

    /** "Cell of row r of the answer ..: IndexOutOfBoundsException: there is none." */
    private static void rowsOfTheAnswer() {
        FixpointEngine e = answered();
        Kit.due("the first row", e.cell(0, 1), FixpointEngine.NULL);
        Kit.due("the last row", e.cell(5, 1), 7);
        for (int r : new int[] {-1, 6, 7, 48, LEAST, MOST}) {
            for (int i = -1; i <= 3; i++) {
                int item = i;
                dueOut("cell(" + r + ", " + item + ")", () -> e.cell(r, item));
            }
        }
    }

    private static void itemsOfTheAnswer() {
        FixpointEngine e = answered();
        Kit.due("the last item", e.cell(5, 2), 9);
        for (int i : new int[] {-1, 3, 4, LEAST, MOST}) {
            for (int r = 0; r < 6; r++) {
                int row = r;
                dueOut("cell(" + row + ", " + i + ")", () -> e.cell(row, i));
            }
        }
        String[] items = {"5", "5,6", "5,6,7", "5,6,7,8"};
        for (int count = 1; count <= 4; count++) {
            Kit.dueFine(e, 0, "SELECT " + items[count - 1]);
            Kit.due("one row", e.run(1, 1), 1);
            for (int i = 0; i < count; i++) {
                Kit.due("item " + i, e.cell(0, i), 5 + i);
            }
            int none = count;
            dueOut("item " + none + " of " + none, () -> e.cell(0, none));
            dueOut("row 1", () -> e.cell(1, 0));
        }
    }

    private static void answerWithoutRows() {
        FixpointEngine e = Kit.columns(1);
        Kit.dueFine(e, 1, "WITH p(x) AS (SELECT f.a FROM t0 f) SELECT f.x FROM p f");
        Kit.due("no rows", e.run(1, 1), 0);
        dueOut("no cell", () -> e.cell(0, 0));
        Kit.due("but there is an answer", e.size(0), 0);
        Kit.due("with rounds", e.rounds(0, 0) + " " + e.rounds(0, 1), "1 0");
    }

    /** Of size: "IndexOutOfBoundsException: there is no answer, or no such part." */
    private static void sizeOfParts() {
        FixpointEngine e = answered();
        Kit.due("p", e.size(0), 3);
        Kit.due("q", e.size(1), 3);
        for (int k : new int[] {-1, 2, 3, 4, 5, LEAST, MOST}) {
            dueOut("size(" + k + ")", () -> e.size(k));
        }
        Kit.dueAnswer(e, "WITH " + one("p") + "," + one("q") + "," + one("r")
                + ",s(x) AS (SELECT 1 UNION ALL SELECT 1) SELECT 1 WHERE 1=2", "");
        Kit.due("the fourth", e.size(3), 2);
        dueOut("no fifth", () -> e.size(4));
        Kit.dueAnswer(e, "SELECT 1", "1");
        dueOut("no part", () -> e.size(0));
    }

    /** Of rounds: "no such component". */
    private static void componentsOfRounds() {
        FixpointEngine e = answered();
        for (int j : new int[] {-1, 2, 3, 4, LEAST, MOST}) {
            for (int r = -1; r <= 2; r++) {
                int round = r;
                dueOut("rounds(" + j + ", " + round + ")", () -> e.rounds(j, round));
            }
        }
        // Four parts, but three components.
        Kit.dueAnswer(e, "WITH RECURSIVE p(x) AS (SELECT 1 UNION SELECT f.x FROM q f),q(x) AS (SELECT 2 UNION"
                + " SELECT f.x FROM p f)," + one("r") + "," + one("s") + " SELECT 1", "1");
        Kit.due("the pair", Kit.rounds(e, 0), "3: 2 2 0");
        Kit.due("the last component", Kit.rounds(e, 2), "1: 1");
        dueOut("no fourth component", () -> e.rounds(3, 0));
        Kit.dueAnswer(e, "SELECT 1", "1");
        dueOut("no component", () -> e.rounds(0, 0));
    }

    /** "how many rounds component j had, the one that brought nothing included; for round r (from 1) ..". */
    private static void roundsOfRounds() {
        FixpointEngine e = answered();
        Kit.due("of p", Kit.rounds(e, 0), "4: 1 1 1 0");
        Kit.due("of q", Kit.rounds(e, 1), "1: 3");
        for (int r : new int[] {-1, 5, 6, 30, 31, LEAST, MOST}) {
            dueOut("rounds(0, " + r + ")", () -> e.rounds(0, r));
        }
        for (int r : new int[] {-1, 2, 3, 31, LEAST, MOST}) {
            dueOut("rounds(1, " + r + ")", () -> e.rounds(1, r));
        }
    }

    /** "there is no answer": before a run. */
    private static void noAnswer() {
        FixpointEngine e = new FixpointEngine();
        Kit.dueNoAnswer("a new object", e);
        Kit.dueFine(e, 1, "WITH " + one("p") + " SELECT 1");
        Kit.dueNoAnswer("a query without a run", e);
        Kit.dueThrown("a run that is refused", () -> e.run(0, 0), IllegalArgumentException.class);
        Kit.dueNoAnswer("a run that is refused", e);
        Kit.due("a run", e.run(1, 2), 1);
        Kit.due("an answer", e.cell(0, 0) + " " + e.size(0) + " " + e.rounds(0, 0), "1 1 1");
    }

    /** No call but prepare() and run() takes the answer away. */
    private static void answerStays() {
        FixpointEngine e = answered();
        e.clear(0);
        e.row(0, 1, 1, 1, 0);
        e.table(2);
        Kit.feed(e, "SELECT 2");
        e.fault();
        e.part(0, 0);
        Kit.dueThrown("no such part", () -> e.part(9, 0), NoSuchElementException.class);
        Kit.dueThrown("no such table", () -> e.row(9, 0, 0, 0, 0), IllegalArgumentException.class);
        dueOut("no such cell", () -> e.cell(6, 0));
        dueOut("no such size", () -> e.size(2));
        dueOut("no such round", () -> e.rounds(0, 5));
        Kit.due("its cells", e.cell(0, 1) + " " + e.cell(5, 1), FixpointEngine.NULL + " 7");
        Kit.due("its sizes", e.size(0) + " " + e.size(1), "3 3");
        Kit.due("its rounds", Kit.rounds(e, 0) + ", " + Kit.rounds(e, 1), "4: 1 1 1 0, 1: 3");
    }

    /** "The text is empty afterwards in either case, and there is no answer." */
    private static void answerIsTakenAway() {
        FixpointEngine e = answered();
        Kit.dueFine(e, 1, "WITH " + one("p") + " SELECT 4");
        Kit.dueNoAnswer("prepared", e);
        Kit.due("run", Kit.run(e, 1, 2), "4");
        Kit.dueFault(e, 1, "SELECT ^");
        Kit.dueNoAnswer("faulty", e);
        Kit.dueFine(e, 1, "WITH " + one("p") + " SELECT 4");
        Kit.dueNoAnswer("prepared again", e);
        Kit.due("too few rows", Kit.run(e, 1, 1), "UnsupportedOperationException");
        Kit.dueNoAnswer("too few rows", e);
    }

    /** "THE ANSWER has the rows of the query's selection, each as often as it comes". */
    private static void eachAsOftenAsItComes() {
        FixpointEngine e = Kit.engine(new Integer[][] {{2}, {1}, {2}, {null}, {2}, {null}});
        Kit.dueAnswer(e, "SELECT f.a FROM t0 f", "NULL; NULL; 1; 2; 2; 2");
        Kit.dueAnswer(e, "SELECT f.a FROM t0 f ORDER BY f.a", "NULL; NULL; 1; 2; 2; 2");
        Kit.dueAnswer(e, "SELECT 3 FROM t0 f ORDER BY f.a,f.a", "3; 3; 3; 3; 3; 3");
    }

    /** "NULL is before all ints." */
    private static void nullBeforeAllInts() {
        Integer[][] rows = {{0}, {LEAST}, {null}, {MOST}, {-1}, {null}, {LEAST}};
        String due = "NULL; NULL; -2147483648; -2147483648; -1; 0; 2147483647";
        Kit.dueAnswer(Kit.engine(rows), "SELECT f.a FROM t0 f", due);
        Kit.dueAnswer(Kit.engine(rows), "SELECT f.a FROM t0 f ORDER BY f.a", due);
        Kit.dueAnswer(Kit.engine(rows), "SELECT 1,f.a FROM t0 f", "1 " + due.replace("; ", "; 1 "));
        Kit.dueAnswer(Kit.engine(new Integer[][] {{LEAST, 1}, {null, 2}}), "SELECT f.b FROM t0 f ORDER BY f.a", "2; 1");
        Kit.dueAnswer(Kit.engine(new Integer[][] {{null, 1}, {LEAST, 2}}), "SELECT 0-f.b FROM t0 f ORDER BY f.a",
                "-1; -2");
    }

    /** "then by the items from the left". */
    private static void itemsFromTheLeft() {
        Integer[][] rows = {{2, 1, 1}, {1, 2, 2}, {1, 2, 1}, {1, 1, 2}};
        Kit.dueAnswer(Kit.engine(rows), "SELECT f.a,f.b,f.c,0 FROM t0 f", "1 1 2 0; 1 2 1 0; 1 2 2 0; 2 1 1 0");
        Kit.dueAnswer(Kit.engine(rows), "SELECT 0,f.c,f.b,f.a FROM t0 f", "0 1 1 2; 0 1 2 1; 0 2 1 1; 0 2 2 1");
        Kit.dueAnswer(Kit.engine(rows), "SELECT 0,0,0,0-f.a-f.b FROM t0 f", "0 0 0 -3; 0 0 0 -3; 0 0 0 -3; 0 0 0 -2");
        Kit.dueAnswer(Kit.engine(rows), "SELECT COUNT(*),f.c FROM t0 f", "2 1; 2 2");
    }

    /** "sorted by the columns of ORDER BY, the first one first". */
    private static void orderByFirst() {
        Integer[][] rows = {{2, 1, 5}, {1, 2, 6}, {1, 1, 8}, {2, 2, 7}, {1, 1, 7}};
        Kit.dueAnswer(Kit.engine(rows), "SELECT f.c FROM t0 f ORDER BY f.a,f.b", "7; 8; 6; 5; 7");
        Kit.dueAnswer(Kit.engine(rows), "SELECT f.c FROM t0 f ORDER BY f.b,f.a", "7; 8; 5; 6; 7");
        Kit.dueAnswer(Kit.engine(rows), "SELECT f.c FROM t0 f ORDER BY f.a", "6; 7; 8; 5; 7");
        Kit.dueAnswer(Kit.engine(rows), "SELECT f.c FROM t0 f ORDER BY f.b", "5; 7; 8; 6; 7");
        Kit.dueAnswer(Kit.engine(rows), "SELECT f.c FROM t0 f ORDER BY f.b,f.b", "5; 7; 8; 6; 7");
        Kit.dueAnswer(Kit.engine(rows), "SELECT f.c FROM t0 f", "5; 6; 7; 7; 8");
    }

    /** A column of ORDER BY need not be an item, and may be of any source. */
    private static void orderByBeyondItems() {
        FixpointEngine e = Kit.engine(new Integer[][] {{1, 30}, {2, 20}, {3, 10}}, new Integer[][] {{7}, {4}});
        Kit.dueAnswer(e, "SELECT f.a FROM t0 f ORDER BY f.b", "3; 2; 1");
        Kit.dueAnswer(e, "SELECT f.a,g.a FROM t0 f,t1 g ORDER BY g.a,f.b", "3 4; 2 4; 1 4; 3 7; 2 7; 1 7");
        Kit.dueAnswer(e, "SELECT 0-g.a FROM t0 f,t1 g WHERE f.a<3 ORDER BY f.b,g.a", "-4; -7; -4; -7");
        Kit.dueAnswer(e, "SELECT h.a FROM t1 f,t1 g,t0 h WHERE f.a<g.a ORDER BY h.b", "3; 2; 1");
    }

    /** Forty-eight rows, the most there can be, are sorted, too. */
    private static void fullAnswer() {
        FixpointEngine e = Kit.columns(1, 1);
        for (int i = 15; i >= 0; i--) {
            e.row(0, i, 0, 0, 0);
        }
        for (int i = 2; i >= 0; i--) {
            e.row(1, i * 16, 0, 0, 0);
        }
        for (String order : new String[] {"", " ORDER BY g.a,f.a", " ORDER BY g.a"}) {
            Kit.dueFine(e, 0, "SELECT f.a+g.a FROM t0 f,t1 g" + order);
            Kit.due("48 rows", e.run(1, 48), 48);
            for (int r = 0; r < 48; r++) {
                Kit.due("row " + r + order, e.cell(r, 0), r);
            }
            dueOut("row 48", () -> e.cell(48, 0));
        }
    }

    /** The longest text may have four hundred tokens. */
    private static void manyTokens() {
        FixpointEngine e = new FixpointEngine();
        Kit.dueFaultAt(e, 1, 0, ",".repeat(400));
        Kit.dueFaultAt(e, 1, 7, "SELECT " + "(".repeat(393));
        Kit.dueFaultAt(e, 1, 1, " X".repeat(200));
        Kit.dueAnswer(e, "SELECT 1", "1");
    }

    /** "An object is used for at most 512 calls after it has been made". */
    private static void manyCalls() {
        FixpointEngine e = Kit.columns(1);
        e.row(0, 3, 0, 0, 0);
        String text = "WITH RECURSIVE p(x) AS (SELECT f.a FROM t0 f UNION SELECT r.x+1 FROM p r WHERE r.x<9)"
                + " SELECT f.x FROM p f";
        int calls = 2;
        while (calls + 9 <= 512) {
            Kit.feed(e, text);
            Kit.due("prepare", e.prepare(), 1);
            Kit.due("run", e.run(30, 48), 7);
            Kit.due("cell", e.cell(6, 0), 9);
            calls += (text.length() + 19) / 20 + 3;
        }
        for (; calls < 512; calls++) {
            Kit.due("the last calls", e.run(30, 48), 7);
        }
        FixpointEngine f = new FixpointEngine();
        for (int i = 0; i < 512; i++) {
            Kit.dueThrown("an empty text", f::prepare, IllegalArgumentException.class);
        }
    }
}
