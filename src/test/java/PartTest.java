import java.util.NoSuchElementException;

/** Promise 8: part, with components and their order. */
final class PartTest {
    private PartTest() {
    }

    public static void main(String[] args) {
        what();
        order();
        wrong();
        Kit.end();
    }

    /** Of each part its component, whether it is recursive, and its columns. */
    private static String told(String text) {
        FixpointEngine e = new FixpointEngine();
        e.table(1);
        String parts = Kit.prepare(e, text);
        if (parts.startsWith("fault")) {
            return parts;
        }
        StringBuilder told = new StringBuilder();
        for (int k = 0; k < Integer.parseInt(parts); k++) {
            told.append(k == 0 ? "" : " ").append(e.part(k, 0)).append(e.part(k, 1)).append(e.part(k, 2));
        }
        return told.toString();
    }

    private static void what() {
        Kit.due("a plain part", told("WITH p(x) AS (SELECT 1) SELECT 1"), "001");
        Kit.due("three columns", told("WITH p(x,y,z) AS (SELECT 1,2,3) SELECT 1"), "003");
        String loop = "WITH RECURSIVE p(x) AS (SELECT 1 UNION SELECT r.x FROM p r)";
        Kit.due("a recursive one", told(loop + " SELECT 1"), "011");
        Kit.due("MARK is counted", told(loop + " CYCLE x SET m SELECT 1"), "012");
        Kit.due("TRAIL is not", told(loop + " SEARCH DEPTH FIRST BY x SET k SELECT 1"), "011");
        Kit.due("RECURSIVE alone makes none", told("WITH RECURSIVE p(x) AS (SELECT 1) SELECT 1"), "001");
        Kit.due("parts that nobody needs count, too", told("WITH p(x) AS (SELECT 1), q(y,x) AS (SELECT 1,2) SELECT 1"),
                "001 102");
    }

    private static void order() {
        String one = "(x) AS (SELECT 1)";
        String anchor = "(x) AS (SELECT 1 UNION SELECT f.x FROM ";
        Kit.due("as in the text", told("WITH p" + one + ", q(x) AS (SELECT f.x FROM p f), r" + one + " SELECT 1"),
                "001 101 201");
        Kit.due("the needed one first",
                told("WITH RECURSIVE p(x) AS (SELECT f.x FROM r f), q" + one + ", r" + one + " SELECT 1"),
                "201 001 101");
        // r comes second; then p, which has the first part, before s.
        Kit.due("again and again from the first",
                told("WITH RECURSIVE p(x) AS (SELECT f.x FROM q f), q" + one + ", r" + one
                        + ", s(x) AS (SELECT f.x FROM r f) SELECT 1"),
                "101 001 201 301");
        Kit.due("a pair is one component",
                told("WITH RECURSIVE p" + anchor + "r f), q" + one + ", r" + anchor + "p f) SELECT 1"),
                "011 101 011");
        Kit.due("a pair that needs another waits for it",
                told("WITH RECURSIVE p" + anchor + "r f), q" + one + ", r" + anchor + "p f,q g) SELECT 1"),
                "111 001 111");
        Kit.due("three in a ring, one beside",
                told("WITH RECURSIVE p" + anchor + "q f), q" + anchor + "r f), r" + anchor
                        + "p f), s(x) AS (SELECT f.x FROM q f) SELECT 1"),
                "011 011 011 101");
        Kit.due("a part is needed by NOT EXISTS",
                told("WITH RECURSIVE p(x) AS (SELECT 1 WHERE NOT EXISTS(SELECT 1 FROM q f)), q" + one + " SELECT 1"),
                "101 001");
        Kit.due("who needs a recursive part is not recursive",
                told("WITH RECURSIVE q(x) AS (SELECT f.x FROM p f), p" + anchor + "p f) SELECT 1"),
                "101 011");
    }

    private static void wrong() {
        FixpointEngine e = new FixpointEngine();
        Kit.dueThrown("no query", () -> e.part(0, 0), NoSuchElementException.class);
        Kit.dueThrown("no query, another what", () -> e.part(0, 9), NoSuchElementException.class);
        Kit.dueFine(e, 2, "WITH p(x) AS (SELECT 1), q(x) AS (SELECT 1) SELECT 1");
        Kit.due("part 1", e.part(1, 0), 1);
        Kit.dueThrown("part 2", () -> e.part(2, 0), NoSuchElementException.class);
        Kit.dueThrown("part -1", () -> e.part(-1, 0), NoSuchElementException.class);
        Kit.dueThrown("part 2, another what", () -> e.part(2, 3), NoSuchElementException.class);
        Kit.dueThrown("what 3", () -> e.part(1, 3), IllegalArgumentException.class);
        Kit.dueThrown("what -1", () -> e.part(1, -1), IllegalArgumentException.class);
        Kit.dueFine(e, 0, "SELECT 1");
        Kit.dueThrown("no part at all", () -> e.part(0, 0), NoSuchElementException.class);
        Kit.dueFault(e, 1, "SELECT ^");
        Kit.dueThrown("no query any more", () -> e.part(0, 0), NoSuchElementException.class);
    }
}
