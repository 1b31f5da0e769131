/** Promises 6 and 7, fault 1: how many of each thing a query may have, and what can't stand behind them. */
final class EdgeGrammarTest {
    /** The mark | stands behind each token with which the query may end. */
    private static final String[] WHOLE = {
        "SELECT 1| WHERE 1=2| AND NULL IS NULL|",
        "SELECT f.a|,COUNT(*)|,SUM(f.a+1)|,MIN(f.a)| FROM t0 f|,t0 g| WHERE f.a<>g.a|-1| AND f.a>1|",
        "SELECT f.a| FROM t0 f| WHERE NOT EXISTS(SELECT 1 FROM t0 g WHERE g.a=f.a AND g.a IS NULL)| AND 1<2|",
        "SELECT f.a| FROM t0 f| ORDER BY f.a|,f.a|",
        "WITH p(x,y) AS (SELECT 1,2 UNION SELECT 2,3 UNION SELECT 3,4),q(z) AS (SELECT MAX(1)) SELECT 1| FROM p f|",
        "WITH RECURSIVE p(x) AS (SELECT 1 UNION ALL SELECT r.x FROM p r WHERE r.x>1) SEARCH DEPTH FIRST BY x SET k"
                + " CYCLE x SET m SELECT f.x| FROM p f| ORDER BY f.k|",
        "WITH RECURSIVE p(x) AS (SELECT 1 UNION SELECT r.x FROM p r) SEARCH BREADTH FIRST BY x SET k,q(x) AS"
                + " (SELECT 2) SELECT 1|,2|,3|,4|",
        "WITH RECURSIVE p(x) AS (SELECT 1 UNION SELECT r.x FROM p r) CYCLE x SET m SELECT NULL|+1|-2|+NULL|",
    };

    private EdgeGrammarTest() {
    }

    public static void main(String[] args) {
        endsTooEarly();
        tokenThatStandsNowhere();
        withAndRecursive();
        oneToFourParts();
        oneToThreeNames();
        oneToFourSelections();
        oneToFourItems();
        oneToThreeSources();
        oneToSixConditions();
        oneToThreeInside();
        oneToFourOperands();
        oneOrTwoColumns();
        numberThatIsOne();
        notExistsInside();
        searchBeforeCycle();
        nothingBehind();
        firstOfManyTokens();
        Kit.end();
    }

    /** An object is used for at most 512 calls: a new one for each text, with t0 of one column. */
    private static void fine(int parts, String text) {
        Kit.dueFine(Kit.columns(1), parts, text);
    }

    private static void fault(String marked) {
        Kit.dueFault(Kit.columns(1), 1, marked);
    }

    /** The same thing some times, with a word between. */
    private static String times(int count, String thing, String between) {
        StringBuilder all = new StringBuilder();
        for (int i = 0; i < count; i++) {
            all.append(i == 0 ? "" : between).append(thing.replace("#", String.valueOf((char) ('b' + i))));
        }
        return all.toString();
    }

    /** Just count of a thing may be there; the one behind can't stand, at the word between. */
    private static void most(int parts, int count, String before, String thing, String between, String after) {
        for (int i = 1; i <= count; i++) {
            fine(parts, before + times(i, thing, between) + after);
        }
        String more = times(count + 1, thing, between);
        int last = more.lastIndexOf(between);
        int skip = between.length() - between.stripLeading().length();
        fault(before + more.substring(0, last + skip) + "^" + more.substring(last + skip) + after);
    }

    private static int tokenEnd(String text, int from) {
        java.util.regex.Matcher token = java.util.regex.Pattern.compile("[A-Z]+|[a-z][a-z0-9]*|[0-9]+|<>|[^ ]")
                .matcher(text);
        return token.find(from) ? token.end() : text.length();
    }

    /** "the length of the text if it ends too early." */
    private static void endsTooEarly() {
        for (String marked : WHOLE) {
            String whole = "";
            for (String piece : marked.split("\\|")) {
                for (int at = 0; at < piece.length(); at = tokenEnd(piece, at)) {
                    if (at > 0 || whole.isEmpty()) {
                        dueTooEarly(whole + piece.substring(0, at));
                    }
                }
                whole += piece;
                dueNoFaultOne(whole);
            }
            fine(marked.contains("q(") ? 2 : marked.contains("p(") ? 1 : 0, whole);
        }
    }

    private static void dueTooEarly(String cut) {
        Kit.dueFaultAt(Kit.columns(1), 1, cut.length(), cut);
        Kit.dueFaultAt(Kit.columns(1), 1, cut.length() + 1, cut + " ");
        Kit.dueFaultAt(Kit.columns(1), 1, 400, cut + " ".repeat(400 - cut.length()));
    }

    /** The text is a query by its grammar; names may mean nothing yet. */
    private static void dueNoFaultOne(String text) {
        FixpointEngine e = Kit.columns(1);
        Kit.prepare(e, text);
        Kit.due("fault 1 of " + text, e.fault() % 10 == 1, false);
    }

    /** "the place (of the first character, from 0) of the first token that can't stand there". */
    private static void tokenThatStandsNowhere() {
        for (String marked : WHOLE) {
            String text = marked.replace("|", "");
            for (int at = 0; at < text.length(); at = tokenEnd(text, at)) {
                for (String odd : new String[] {"X", "abcdefg", "12345", "?"}) {
                    Kit.dueFaultAt(Kit.columns(1), 1, at + 1, text.substring(0, at) + " " + odd + " "
                            + text.substring(at));
                }
            }
            Kit.dueFaultAt(Kit.columns(1), 1, text.length() + 2, text + "  X X");
        }
    }

    /** "perhaps WITH, perhaps RECURSIVE behind it, and one to four PARTS". */
    private static void withAndRecursive() {
        fine(0, "SELECT 1");
        fine(1, "WITH p(x) AS (SELECT 1) SELECT 1");
        fine(1, "WITH RECURSIVE p(x) AS (SELECT 1) SELECT 1");
        fault("^RECURSIVE p(x) AS (SELECT 1) SELECT 1");
        fault("^RECURSIVE SELECT 1");
        fault("^p(x) AS (SELECT 1) SELECT 1");
        fault("WITH ^SELECT 1");
        fault("WITH RECURSIVE ^SELECT 1");
        fault("WITH RECURSIVE ^RECURSIVE p(x) AS (SELECT 1) SELECT 1");
        fault("WITH ^WITH p(x) AS (SELECT 1) SELECT 1");
        fault("WITH p(x) AS (SELECT 1), ^RECURSIVE q(x) AS (SELECT 1) SELECT 1");
        fault("WITH p(x) AS (SELECT 1) ^WITH q(x) AS (SELECT 1) SELECT 1");
        fault("WITH p(x) AS (SELECT 1) ^q(x) AS (SELECT 1) SELECT 1");
    }

    private static void oneToFourParts() {
        for (int parts = 1; parts <= 4; parts++) {
            fine(parts, "WITH " + times(parts, "#(x) AS (SELECT 1)", ",") + " SELECT 1");
        }
        fault("WITH " + times(4, "#(x) AS (SELECT 1)", ",") + "^,f(x) AS (SELECT 1) SELECT 1");
        fault("WITH " + times(4, "#(x) AS (SELECT 1)", ",") + "^, SELECT 1");
        fault("WITH " + times(3, "#(x) AS (SELECT 1)", ",") + ", ^SELECT 1");
    }

    /** "( one to three NAMES of columns with a , between )". */
    private static void oneToThreeNames() {
        for (int names = 1; names <= 3; names++) {
            fine(1, "WITH p(" + times(names, "#", ",") + ") AS (SELECT " + times(names, "1", ",") + ") SELECT 1");
        }
        fault("WITH p(b,c,d^,e) AS (SELECT 1,1,1,1) SELECT 1");
        fault("WITH p(b,c,d^,) AS (SELECT 1,1,1) SELECT 1");
        fault("WITH p(^) AS (SELECT 1) SELECT 1");
        fault("WITH p(b,^) AS (SELECT 1) SELECT 1");
        fault("WITH p(b ^c) AS (SELECT 1) SELECT 1");
        fault("WITH p(^1) AS (SELECT 1) SELECT 1");
        fault("WITH p(b^.c) AS (SELECT 1) SELECT 1");
    }

    /** "( one to four SELECTIONS with UNION, or UNION ALL, between )". */
    private static void oneToFourSelections() {
        most(1, 4, "WITH p(x) AS (", "SELECT 1", " UNION ", ") SELECT 1");
        most(1, 4, "WITH p(x) AS (", "SELECT 1", " UNION ALL ", ") SELECT 1");
        most(1, 4, "WITH p(x) AS (", "SELECT f.a FROM t0 f WHERE f.a<1", " UNION ", ") SELECT 1");
        fault("WITH p(x) AS (^) SELECT 1");
        fault("WITH p(x) AS (SELECT 1 UNION ^) SELECT 1");
        fault("WITH p(x) AS (SELECT 1 UNION ALL ^) SELECT 1");
        fault("WITH p(x) AS (SELECT 1, ^SELECT 1) SELECT 1");
        fault("WITH p(x) AS (SELECT 1 ^SELECT 1) SELECT 1");
        fault("SELECT 1 ^UNION SELECT 1");
        fault("SELECT 1 ^UNION ALL SELECT 1");
    }

    private static void oneToFourItems() {
        most(0, 4, "SELECT ", "1", ",", "");
        most(0, 4, "SELECT ", "COUNT(*)", ",", " FROM t0 f");
        most(0, 4, "SELECT ", "SUM(f.a)", ",", " FROM t0 f");
        most(0, 4, "SELECT ", "f.a", ",", " FROM t0 f");
        fault("WITH p(x) AS (SELECT 1,2,3,4^,5) SELECT 1");
        // Four can stand, though a part has three columns at most: that is another fault.
        Kit.dueFault(Kit.columns(1), 3, "WITH p(x,y,z) AS (^SELECT 1,2,3,4) SELECT 1");
        fault("SELECT ^");
        fault("SELECT ^FROM t0 f");
        fault("SELECT 1,^FROM t0 f");
    }

    private static void oneToThreeSources() {
        most(0, 3, "SELECT 1 FROM ", "t0 #", ",", "");
        most(0, 3, "SELECT 1 FROM ", "t0 #", ",", " WHERE 1=1");
        most(1, 3, "WITH p(x) AS (SELECT 1 FROM ", "t0 #", ",", ") SELECT 1");
        fault("SELECT 1 FROM ^");
        fault("SELECT 1 FROM ^WHERE 1=1");
        fault("SELECT 1 FROM t0 f,^");
        fault("SELECT 1 FROM t0 ^WHERE 1=1");
        fault("SELECT 1 FROM t0 f ^FROM t0 g");
    }

    private static void oneToSixConditions() {
        most(0, 6, "SELECT 1 WHERE ", "1=1", " AND ", "");
        most(0, 6, "SELECT 1 WHERE ", "1 IS NULL", " AND ", "");
        most(0, 6, "SELECT 1 WHERE ", "NOT EXISTS(SELECT 1 FROM t0 #)", " AND ", "");
        most(0, 6, "SELECT f.a FROM t0 f WHERE ", "1<2", " AND ", " ORDER BY f.a");
        most(1, 6, "WITH p(x) AS (SELECT 1 WHERE ", "2>1", " AND ", ") SELECT 1");
        fault("SELECT 1 WHERE ^");
        fault("SELECT 1 WHERE ^AND 1=1");
        fault("SELECT 1 WHERE 1=1 AND ^AND 1=1");
        fault("SELECT 1 WHERE 1=1 ^WHERE 1=1");
    }

    /** "one to three of the first two kinds with AND between". */
    private static void oneToThreeInside() {
        most(0, 3, "SELECT 1 WHERE NOT EXISTS(SELECT 1 FROM t0 f WHERE ", "f.a=1", " AND ", ")");
        most(0, 3, "SELECT 1 WHERE NOT EXISTS(SELECT 1 FROM t0 f WHERE ", "f.a IS NULL", " AND ", ") AND 1=1");
        fault("SELECT 1 WHERE NOT EXISTS(SELECT 1 FROM t0 f WHERE ^)");
        fault("SELECT 1 WHERE NOT EXISTS(SELECT 1 FROM t0 f WHERE 1=1 AND ^)");
        fault("SELECT 1 WHERE NOT EXISTS(SELECT 1 FROM t0 f WHERE 1=1 AND ^NOT EXISTS(SELECT 1 FROM t0 g))");
    }

    /** "EXPRESSION: one to four OPERANDS with + or - between", wherever an expression stands. */
    private static void oneToFourOperands() {
        String[][] around = {
            {"SELECT ", ""}, {"SELECT SUM(", ")"}, {"SELECT MIN(", ")"}, {"SELECT MAX(", ")"},
            {"SELECT 1 WHERE ", "=1"}, {"SELECT 1 WHERE 1<>", ""}, {"SELECT 1 WHERE 1<", " AND 1=1"},
            {"SELECT 1 WHERE ", " IS NULL"}, {"SELECT 1 WHERE ", ">1"},
            {"SELECT 1 WHERE NOT EXISTS(SELECT 1 FROM t0 f WHERE ", "=1)"},
            {"SELECT 1 WHERE NOT EXISTS(SELECT 1 FROM t0 f WHERE 1=", ")"},
            {"SELECT 1 WHERE NOT EXISTS(SELECT 1 FROM t0 f WHERE ", " IS NULL)"},
        };
        for (String[] two : around) {
            for (String operand : new String[] {"1", "NULL"}) {
                most(0, 4, two[0], operand, "+", two[1]);
                most(0, 4, two[0], operand, "-", two[1]);
            }
            fault(two[0] + "1+1-1+1^-1" + two[1]);
            fault(two[0] + "1-1+1-1^+1" + two[1]);
            fault(two[0] + "^+1" + two[1]);
            fault(two[0] + "^-1" + two[1]);
            fault(two[0] + "1+^+1" + two[1]);
            fault(two[0] + "1^*1" + two[1]);
        }
        most(0, 4, "SELECT ", "f.a", "+", " FROM t0 f");
        most(0, 4, "SELECT 1 FROM t0 f WHERE f.a=", "f.a", "-", "");
    }

    /** "then perhaps ORDER BY and one or two COLUMNS with a , between". */
    private static void oneOrTwoColumns() {
        most(0, 2, "SELECT 1 FROM t0 f ORDER BY ", "f.a", ",", "");
        fault("SELECT 1 FROM t0 f ORDER BY ^");
        fault("SELECT 1 FROM t0 f ORDER BY f.a,^");
        fault("SELECT 1 FROM t0 f ORDER BY f.a,f.a^,");
        fault("SELECT 1 FROM t0 f ORDER BY ^1");
        fault("SELECT 1 FROM t0 f ORDER BY f.a,^NULL");
        fault("SELECT 1 FROM t0 f ORDER BY f.a^+1");
        fault("SELECT 1 FROM t0 f ORDER BY f^");
        fault("SELECT 1 FROM t0 f ^BY f.a");
        fault("SELECT 1 FROM t0 f ORDER BY f.a ^ORDER BY f.a");
        fault("SELECT 1 FROM t0 f ORDER BY f.a ^WHERE 1=1");
    }

    /** "a NUMBER that is 1 (by its value: 01, too)". */
    private static void numberThatIsOne() {
        for (String one : new String[] {"1", "01", "001", "0001"}) {
            fine(0, "SELECT 1 WHERE NOT EXISTS(SELECT " + one + " FROM t0 f)");
        }
        for (String other : new String[] {"0", "2", "10", "11", "0010", "1000", "1001", "00", "0002", "00001", "NULL",
            "f.a", "*", "COUNT(*)", "SUM(1)", "(1)"}) {
            fault("SELECT 1 WHERE NOT EXISTS(SELECT ^" + other + " FROM t0 f)");
        }
    }

    private static void notExistsInside() {
        fault("SELECT 1 WHERE NOT EXISTS(SELECT 1^,1 FROM t0 f)");
        fault("SELECT 1 WHERE NOT EXISTS(SELECT 1^+0 FROM t0 f)");
        fault("SELECT 1 WHERE NOT EXISTS(SELECT 1^)");
        fault("SELECT 1 WHERE NOT EXISTS(SELECT 1 ^WHERE 1=1)");
        fault("SELECT 1 WHERE NOT EXISTS(SELECT 1 FROM t0 f^,t0 g)");
        fault("SELECT 1 WHERE NOT EXISTS(SELECT 1 FROM t0 f ^ORDER BY f.a)");
        fault("SELECT 1 WHERE NOT EXISTS(SELECT 1 FROM t0 f ^UNION SELECT 1)");
        fault("SELECT 1 WHERE NOT ^NOT EXISTS(SELECT 1 FROM t0 f)");
        fault("SELECT 1 WHERE ^EXISTS(SELECT 1 FROM t0 f)");
        fault("SELECT 1 WHERE NOT ^1=1");
        fault("SELECT 1 WHERE NOT EXISTS(^WITH p(x) AS (SELECT 1) SELECT 1 FROM t0 f)");
    }

    /** "then perhaps SEARCH ..; then perhaps CYCLE ..", each once and in this order. */
    private static void searchBeforeCycle() {
        String part = "WITH RECURSIVE p(x) AS (SELECT 1 UNION SELECT r.x FROM p r) ";
        fine(1, part + "SELECT 1");
        fine(1, part + "SEARCH DEPTH FIRST BY x SET k CYCLE x SET m SELECT 1");
        fault(part + "CYCLE x SET m ^SEARCH DEPTH FIRST BY x SET k SELECT 1");
        fault(part + "SEARCH DEPTH FIRST BY x SET k ^SEARCH DEPTH FIRST BY x SET l SELECT 1");
        fault(part + "CYCLE x SET m ^CYCLE x SET n SELECT 1");
        fault(part + "SEARCH ^FIRST BY x SET k SELECT 1");
        fault(part + "SEARCH DEPTH ^BREADTH FIRST BY x SET k SELECT 1");
        fault(part + "SEARCH BREADTH ^DEPTH FIRST BY x SET k SELECT 1");
        fault(part + "SEARCH DEPTH FIRST BY x^,x SET k SELECT 1");
        fault(part + "SEARCH DEPTH FIRST BY x^.x SET k SELECT 1");
        // Behind the , another part would begin.
        fault(part + "SEARCH DEPTH FIRST BY x SET k,l ^SELECT 1");
        fault(part + "CYCLE x^,x SET m SELECT 1");
        fault("SELECT 1 ^SEARCH DEPTH FIRST BY x SET k");
        fault("SELECT 1 ^CYCLE x SET m");
    }

    /** "and nothing behind." */
    private static void nothingBehind() {
        for (String text : new String[] {"SELECT 1", "SELECT 1 FROM t0 f", "SELECT 1 WHERE 1=1", "SELECT 1 FROM t0 f"
                + " ORDER BY f.a", "SELECT COUNT(*)", "WITH p(x) AS (SELECT 1) SELECT 1"}) {
            fine(text.startsWith("WITH") ? 1 : 0, text);
            for (String behind : new String[] {")", "(", "1", "x", "SELECT", "SELECT 1", "UNION SELECT 1", "*", ".",
                "NULL", "WITH", "AS", "="}) {
                fault(text + " ^" + behind);
            }
        }
    }

    /** Of several tokens that can't stand, the first is told. */
    private static void firstOfManyTokens() {
        fault("SELECT ^, FROM , WHERE ,");
        fault("WITH p(x) AS (SELECT 1 ^1) SELECT 1 1");
        fault("^X SELECT X");
        fault("SELECT 1,2,3,4^,5 FROM t0 f,t0 g,t0 h,t0 i");
    }
}
