import java.util.ArrayList;
import java.util.List;
import java.util.Random;

/** Makes the text of a query, most often one without a fault, with a blank between all tokens. */
final class AnyQuery {
    private static final String[] COLUMNS = {"a", "b", "c"};
    private static final String[] COMPARISONS = {"=", "<>", "<", ">"};

    private final Random random;
    private final int tables;
    private final int[] columns;
    private final List<String> names = new ArrayList<>();
    private final List<Integer> widths = new ArrayList<>();
    /** The columns that are known where the text is made, as alias . name. */
    private final List<String> known = new ArrayList<>();

    AnyQuery(Random random, int tables, int[] columns) {
        this.random = random;
        this.tables = tables;
        this.columns = columns;
    }

    private boolean oneIn(int n) {
        return random.nextInt(n) == 0;
    }

    /** Not longer than a text may be. */
    String text() {
        for (int i = 0; i < 50; i++) {
            names.clear();
            widths.clear();
            String made = made();
            if (made.length() <= 400) {
                return made;
            }
        }
        return "SELECT 1";
    }

    private String made() {
        StringBuilder text = new StringBuilder();
        int parts = random.nextInt(4);
        for (int k = 0; k < parts; k++) {
            text.append(k == 0 ? "WITH RECURSIVE " : " , ");
            part(text, k);
        }
        text.append(parts == 0 ? "" : " ");
        boolean ordered = oneIn(2);
        text.append(selection(1 + random.nextInt(3), null, !ordered && oneIn(3)));
        if (ordered && !known.isEmpty()) {
            text.append(" ORDER BY ").append(oneOf(known));
            text.append(oneIn(2) ? " , " + oneOf(known) : "");
        }
        return text.toString();
    }

    private String oneOf(List<String> from) {
        return from.get(random.nextInt(from.size()));
    }

    private void part(StringBuilder text, int k) {
        int width = 1 + random.nextInt(2);
        String name = "p" + k;
        boolean recursive = !oneIn(3);
        text.append(name).append(" ( ").append(width == 1 ? "a" : "a , b").append(" ) AS ( ");
        text.append(selection(width, null, oneIn(5)));
        if (recursive) {
            text.append(oneIn(2) ? " UNION " : " UNION ALL ");
            names.add(name);
            widths.add(width);
            text.append(selection(width, name, false));
        }
        text.append(" )");
        text.append(recursive && oneIn(4) ? " SEARCH " + (oneIn(2) ? "DEPTH" : "BREADTH") + " FIRST BY a SET s" : "");
        text.append(recursive && oneIn(3) ? " CYCLE a SET m" : "");
        if (!recursive) {
            names.add(name);
            widths.add(width);
        }
    }

    /** A selection that has a source of this name, if one is given. */
    private String selection(int items, String itself, boolean gathering) {
        known.clear();
        StringBuilder from = new StringBuilder();
        int sources = itself != null ? 1 + random.nextInt(2) : random.nextInt(3);
        for (int i = 0; i < sources; i++) {
            from.append(i == 0 ? " FROM " : " , ").append(source(i == 0 ? itself : null, "xyz".substring(i, i + 1)));
        }
        StringBuilder text = new StringBuilder("SELECT ");
        for (int i = 0; i < items; i++) {
            text.append(i == 0 ? "" : " , ").append(gathering && oneIn(2) ? gathered() : expression());
        }
        text.append(from);
        int conditions = random.nextInt(3);
        for (int i = 0; i < conditions; i++) {
            text.append(i == 0 ? " WHERE " : " AND ").append(oneIn(4) ? notExists() : comparison());
        }
        return text.toString();
    }

    private String source(String itself, String alias) {
        boolean part = itself != null || tables == 0 || oneIn(3);
        if (part && !names.isEmpty()) {
            int k = itself != null ? names.indexOf(itself) : random.nextInt(names.size());
            know(alias, widths.get(k));
            return names.get(k) + " " + alias;
        }
        int table = tables == 0 ? 0 : random.nextInt(tables);
        know(alias, tables == 0 ? 1 : columns[table]);
        return "t" + table + " " + alias;
    }

    private void know(String alias, int width) {
        for (int i = 0; i < width; i++) {
            known.add(alias + " . " + COLUMNS[i]);
        }
    }

    private String gathered() {
        String[] kinds = {"SUM", "MIN", "MAX"};
        return oneIn(3) ? "COUNT ( * )" : kinds[random.nextInt(3)] + " ( " + expression() + " )";
    }

    private String expression() {
        StringBuilder text = new StringBuilder(operand());
        for (int i = 0; i < 2 && oneIn(3); i++) {
            text.append(oneIn(2) ? " + " : " - ").append(operand());
        }
        return text.toString();
    }

    private String operand() {
        if (!known.isEmpty() && !oneIn(4)) {
            return oneOf(known);
        }
        return oneIn(6) ? "NULL" : String.valueOf(random.nextInt(4));
    }

    private String comparison() {
        return oneIn(6) ? expression() + " IS NULL"
                : expression() + " " + COMPARISONS[random.nextInt(4)] + " " + expression();
    }

    private String notExists() {
        int before = known.size();
        String from = source(null, "w");
        String text = "NOT EXISTS ( SELECT 1 FROM " + from + (oneIn(4) ? "" : " WHERE " + comparison()) + " )";
        while (known.size() > before) {
            known.remove(known.size() - 1);
        }
        return text;
    }
}
