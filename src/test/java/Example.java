/** The example of README.md: who can be reached from 1, and by which way. */
final class Example {
    private Example() {
    }

    public static void main(String[] args) {
        FixpointEngine engine = new FixpointEngine();
        int edges = engine.table(2);                  // 0: the table is named t0, its columns a and b
        engine.row(edges, 1, 2, 0, 0);                // 1, the rows that it has then
        engine.row(edges, 1, 5, 0, 0);                // 2
        engine.row(edges, 2, 3, 0, 0);                // 3
        engine.row(edges, 3, 1, 0, 0);                // 4
        engine.row(edges, 5, 0, 0, 2);                // 5; bit 1 of the last number: b is NULL

        feed(engine, "WITH RECURSIVE r(x) AS (SELECT 1 UNION ALL SELECT e.b FROM r p,t0 e WHERE e.a=p.x) "
                + "SEARCH DEPTH FIRST BY x SET way CYCLE x SET again "
                + "SELECT q.x,q.again FROM r q ORDER BY q.way");
        System.out.println("parts: " + engine.prepare());
        System.out.println("part 0: component " + engine.part(0, 0) + ", recursive " + engine.part(0, 1)
                + ", columns " + engine.part(0, 2));

        int rows = engine.run(30, 48);                // at most 30 rounds of a component, 48 rows in all
        for (int r = 0; r < rows; r++) {
            System.out.println("row " + r + ": " + told(engine.cell(r, 0)) + " " + told(engine.cell(r, 1)));
        }
        System.out.println("rows of part 0: " + engine.size(0));
        System.out.println("rounds of component 0: " + engine.rounds(0, 0) + ", the second brought "
                + engine.rounds(0, 2));

        engine.clear(edges);                          // 5, the rows that go
        System.out.println("without edges: " + engine.run(30, 48));

        feed(engine, "SELECT e.c FROM t0 e");
        try {
            engine.prepare();
        } catch (IllegalArgumentException e) {
            int fault = engine.fault();
            System.out.println("fault " + fault % 10 + " at place " + fault / 10);
        }
    }

    private static String told(long cell) {
        return cell == FixpointEngine.NULL ? "NULL" : String.valueOf(cell);
    }

    /** Twenty characters come with each call, four in a number; the zero bytes of the last numbers do not count. */
    private static void feed(FixpointEngine engine, String text) {
        for (int i = 0; i < text.length(); i += 20) {
            engine.text(four(text, i), four(text, i + 4), four(text, i + 8), four(text, i + 12), four(text, i + 16));
        }
    }

    private static int four(String text, int from) {
        int four = 0;
        for (int i = from; i < from + 4; i++) {
            four = (four << 8) | (i < text.length() ? text.charAt(i) : 0);
        }
        return four;
    }
}
