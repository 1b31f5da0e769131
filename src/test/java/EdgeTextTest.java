/** Promise 5 and what Terms say of THE TEXT and its TOKENS: a test for each bound, on both sides of it. */
final class EdgeTextTest {
    /** Every keyword, name and sign stands here; each name has six characters. */
    private static final String ALL_WORDS = "WITH RECURSIVE part11(colum1,colum2)AS(SELECT alias1.a,COUNT(*)FROM t0"
            + " alias1 WHERE NOT EXISTS(SELECT 1 FROM t0 alias2 WHERE alias2.a<1)AND alias1.a IS NULL UNION SELECT"
            + " MIN(alias1.a),MAX(1+2-3)FROM t0 alias1 UNION SELECT SUM(alias1.a),1 FROM t0 alias1 WHERE 1=1),"
            + "part22(colum1)AS(SELECT 1 UNION ALL SELECT 2)SELECT 1 FROM t0 alias1 ORDER BY alias1.a";
    private static final String ALL_TRAILS = "WITH RECURSIVE part11(colum1,colum2)AS(SELECT 1,2 UNION ALL SELECT"
            + " alias1.colum2,alias1.mark11 FROM part11 alias1 WHERE alias1.colum1<>1)SEARCH %s FIRST BY colum1"
            + " SET trail1 CYCLE colum2 SET mark11 SELECT alias1.colum1 FROM part11 alias1 ORDER BY alias1.trail1";

    private EdgeTextTest() {
    }

    public static void main(String[] args) {
        upToTwentyCharacters();
        bytesThatAreZero();
        codesSaid();
        fourHundred();
        fourHundredInOneCall();
        refusedTextLeavesTheQuery();
        textIsKept();
        keywords();
        names();
        namesOfSix();
        numbers();
        signs();
        codesOfNoToken();
        blanks();
        asManyAsBelongTogether();
        Kit.end();
    }

    private static void dueText(FixpointEngine e, String text, boolean due) {
        Kit.due("text " + text.length() + " <" + text + ">", e.text(Kit.four(text, 0), Kit.four(text, 4),
                Kit.four(text, 8), Kit.four(text, 12), Kit.four(text, 16)), due);
    }

    /** "Up to twenty characters come to the text: the bytes of each number, the highest first". */
    private static void upToTwentyCharacters() {
        FixpointEngine e = new FixpointEngine();
        dueText(e, "SELECT 1234-56,78-90", true);
        dueText(e, "", true);
        dueText(e, "1", true);
        Kit.due("a query", e.prepare(), 0);
        Kit.due("in its order", Kit.run(e, 1, 1), "1178 -823");
    }

    /** "but for bytes that are 0". */
    private static void bytesThatAreZero() {
        String text = "SELECT 1+2";
        for (int at = 0; at < 20; at++) {
            int[] fours = new int[5];
            fours[at / 4] = 'x' << (24 - at % 4 * 8);
            FixpointEngine e = new FixpointEngine();
            Kit.due("one byte at " + at, e.text(fours[0], fours[1], fours[2], fours[3], fours[4]), true);
            Kit.due("no byte", e.text(0, 0, 0, 0, 0), true);
            Kit.dueThrown("it is x", e::prepare, IllegalArgumentException.class);
            Kit.due("alone, at 0", e.fault(), 1);
        }
        FixpointEngine e = new FixpointEngine();
        for (int i = 0; i < text.length(); i++) {
            int code = text.charAt(i);
            Kit.due("a byte a call", e.text(0, 0, i % 3 == 0 ? code << 24 : 0, 0, i % 3 == 0 ? 0 : code << 8 * (i % 3)),
                    true);
        }
        Kit.due("they follow one another", e.prepare(), 0);
        Kit.due("and answer", Kit.run(e, 1, 1), "3");
    }

    /** "codes 32 .. 126"; "false, and nothing comes, if one of them is none of the codes said". */
    private static void codesSaid() {
        for (int code = 1; code < 256; code++) {
            FixpointEngine e = new FixpointEngine();
            boolean good = code >= 32 && code <= 126;
            for (int at = 0; at < 20; at++) {
                int[] fours = {0x31313131, 0x31313131, 0x31313131, 0x31313131, 0x31313131};
                int shift = 24 - at % 4 * 8;
                fours[at / 4] = fours[at / 4] & ~(255 << shift) | code << shift;
                Kit.due("code " + code + " at " + at, e.text(fours[0], fours[1], fours[2], fours[3], fours[4]), good);
            }
            // All four hundred came, or none at all.
            Kit.due("code " + code + ": one more", e.text(' ', 0, 0, 0, 0), !good);
            Kit.dueThrown("code " + code + ": no query", e::prepare, IllegalArgumentException.class);
            Kit.due("code " + code + ": where it is stuck", e.fault(), good && code != ' ' ? 1 : 11);
        }
    }

    /** "THE TEXT has at most 400 characters"; "false, and nothing comes, if .. 400 would be passed." */
    private static void fourHundred() {
        FixpointEngine e = new FixpointEngine();
        Kit.due("399 characters", Kit.feed(e, "SELECT 1" + " ".repeat(391)), true);
        dueText(e, "+2", false);
        dueText(e, "22222222222222222222", false);
        dueText(e, "", true);
        dueText(e, "3", true);
        dueText(e, "4", false);
        dueText(e, " ", false);
        dueText(e, "", true);
        Kit.dueThrown("1 3 is no query", e::prepare, IllegalArgumentException.class);
        Kit.due("3 stands at 399", e.fault(), 3991);
        Kit.due("then 400 can come again", Kit.feed(e, " ".repeat(400)), true);
        dueText(e, " ", false);
        Kit.dueThrown("blanks are no query", e::prepare, IllegalArgumentException.class);
        Kit.due("they end at 400", e.fault(), 4001);
    }

    private static void fourHundredInOneCall() {
        FixpointEngine e = new FixpointEngine();
        Kit.due("380 characters", Kit.feed(e, "SELECT 1" + " ".repeat(372)), true);
        dueText(e, "                  +2", true);
        dueText(e, " ", false);
        Kit.due("a query of 400", e.prepare(), 0);
        Kit.due("its answer", Kit.run(e, 1, 1), "3");
        Kit.due("381 characters", Kit.feed(e, "SELECT 1" + " ".repeat(373)), true);
        dueText(e, "+2                  ", false);
        dueText(e, "+5                 ", true);
        dueText(e, " ", false);
        Kit.due("a query of 400 again", e.prepare(), 0);
        Kit.due("nothing of the refused one came", Kit.run(e, 1, 1), "6");
    }

    private static void refusedTextLeavesTheQuery() {
        FixpointEngine e = new FixpointEngine();
        Kit.dueAnswer(e, "SELECT 4", "4");
        dueText(e, "SELECT \t5", false);
        Kit.due("the answer stays", e.cell(0, 0), 4);
        Kit.due("the query stays", Kit.run(e, 1, 1), "4");
        Kit.due("no fault", e.fault(), 0);
        Kit.dueAnswer(e, "SELECT 5", "5");
    }

    /** Nothing but prepare() is said to empty the text. */
    private static void textIsKept() {
        FixpointEngine e = new FixpointEngine();
        Kit.dueFine(e, 0, "SELECT 8");
        dueText(e, "SELECT f.", true);
        Kit.due("run", e.run(1, 1), 1);
        Kit.dueThrown("run with wrong arguments", () -> e.run(0, 0), IllegalArgumentException.class);
        Kit.dueThrown("part", () -> e.part(0, 0), java.util.NoSuchElementException.class);
        dueText(e, "a F", true);
        e.table(1);
        e.row(0, 3, 0, 0, 0);
        Kit.dueThrown("table", () -> e.table(4), IllegalArgumentException.class);
        dueText(e, "ROM t0 f", true);
        Kit.due("fault", e.fault(), 0);
        e.clear(0);
        e.row(0, 6, 0, 0, 0);
        Kit.due("one text of three", e.prepare(), 0);
        Kit.due("its answer", Kit.run(e, 1, 1), "6");
        Kit.dueThrown("it is empty then", e::prepare, IllegalArgumentException.class);
        Kit.due("the fault of an empty text", e.fault(), 1);
    }

    private static String withTrails(String search) {
        return ALL_TRAILS.replace("%s", search);
    }

    private static boolean isWord(String text, int at) {
        return Character.isLetterOrDigit(text.charAt(at));
    }

    /** "a KEYWORD is all capital letters that follow one another, and one of ..": one letter more or less is none. */
    private static void keywords() {
        java.util.Set<String> met = new java.util.TreeSet<>();
        for (String text : new String[] {ALL_WORDS, withTrails("DEPTH"), withTrails("BREADTH")}) {
            java.util.regex.Matcher word = java.util.regex.Pattern.compile("[A-Z]+").matcher(text);
            while (word.find()) {
                met.add(word.group());
                String before = text.substring(0, word.start());
                String after = text.substring(word.end());
                String less = word.group().substring(0, word.group().length() - 1);
                Kit.dueFaultAt(Kit.columns(1), 1, word.start(), before + less + after);
                Kit.dueFaultAt(Kit.columns(1), 1, word.start(), before + word.group() + "S" + after);
                Kit.dueFaultAt(Kit.columns(1), 1, word.start(), before + "A" + word.group() + after);
            }
        }
        Kit.due("every keyword was met", met.toString(), "[ALL, AND, AS, BREADTH, BY, COUNT, CYCLE, DEPTH, EXISTS,"
                + " FIRST, FROM, IS, MAX, MIN, NOT, NULL, ORDER, RECURSIVE, SEARCH, SELECT, SET, SUM, UNION, WHERE,"
                + " WITH]");
        Kit.dueFine(Kit.columns(1), 2, ALL_WORDS);
        Kit.dueFine(Kit.columns(1), 1, withTrails("DEPTH"));
        Kit.dueFine(Kit.columns(1), 1, withTrails("BREADTH"));
        Kit.dueFaultAt(new FixpointEngine(), 1, 0, "Select 1");
        Kit.dueFaultAt(new FixpointEngine(), 1, 0, "SELECTWITH 1");
        Kit.dueFaultAt(new FixpointEngine(), 1, 0, "SEL ECT 1");
    }

    /** "a NAME begins with a small letter and goes on with all small letters and digits that follow, at most 6". */
    private static void names() {
        for (String text : new String[] {ALL_WORDS, withTrails("DEPTH")}) {
            java.util.regex.Matcher name = java.util.regex.Pattern.compile("[a-z][a-z0-9]{5}").matcher(text);
            while (name.find()) {
                String before = text.substring(0, name.start());
                String after = text.substring(name.end());
                for (String end : new String[] {"a", "0", "abcdef"}) {
                    Kit.dueFaultAt(Kit.columns(1), 1, name.start(), before + name.group() + end + after);
                }
            }
        }
        Kit.dueFine(Kit.columns(1), 0, "SELECT a.a,z.a,z9.a FROM t0 a,t0 z,t0 z9");
        Kit.dueFault(Kit.columns(1), 1, "SELECT 1 FROM t0 ^9z");
        Kit.dueFault(Kit.columns(1), 1, "SELECT 1 FROM t0 ^Z");
        Kit.dueFault(Kit.columns(1), 1, "SELECT 1 FROM t0 z^Z");
        Kit.dueFault(Kit.columns(1), 1, "SELECT 1 FROM t0 z^_");
    }

    /** Names are told apart by all of their characters. */
    private static void namesOfSix() {
        FixpointEngine e = Kit.engine(new Integer[][] {{1, 2}, {3, 4}});
        Kit.dueAnswer(e, "SELECT abcde1.a,abcde2.b FROM t0 abcde1,t0 abcde2 WHERE abcde1.a<abcde2.a", "1 4");
        Kit.dueAnswer(e, "SELECT bbcdef.a,abcdef.b FROM t0 abcdef,t0 bbcdef WHERE abcdef.a<bbcdef.a", "3 2");
        Kit.dueFault(e, 2, "SELECT ^abcde3.a FROM t0 abcde1,t0 abcde2");
        Kit.dueFault(e, 2, "SELECT ^abcde.a FROM t0 abcde1");
        Kit.dueFault(e, 2, "SELECT 1 FROM t0 abcdef,t0 ^abcdef");
        Kit.dueFine(e, 0, "SELECT 1 FROM t0 a,t0 a0,t0 aa");
        Kit.dueFine(e, 1, "WITH abcdef(abcde0,abcde1,bbcde0) AS (SELECT 1,2,3) SELECT f.bbcde0 FROM abcdef f");
        Kit.dueFault(e, 2, "WITH abcdef(abcde0) AS (SELECT 1) SELECT 1 FROM ^abcdee f");
    }

    /** "a NUMBER is all digits that follow one another, at most 4". */
    private static void numbers() {
        Kit.dueAnswer(new FixpointEngine(), "SELECT 0,9,99,999", "0 9 99 999");
        Kit.dueAnswer(new FixpointEngine(), "SELECT 9999,0000,0009,1000", "9999 0 9 1000");
        for (String five : new String[] {"10000", "99999", "00000", "00001", "123456789012345678901234567890"}) {
            Kit.dueFault(new FixpointEngine(), 1, "SELECT ^" + five);
            Kit.dueFault(new FixpointEngine(), 1, "SELECT 1+^" + five);
            Kit.dueFault(new FixpointEngine(), 1, "SELECT 1 WHERE 1<^" + five);
        }
        Kit.dueFault(new FixpointEngine(), 1, "SELECT 1234 ^5");
    }

    /** "<> is one SIGN, and so is each of , ( ) . + - = < > * besides." */
    private static void signs() {
        Kit.dueAnswer(new FixpointEngine(), "SELECT 1 WHERE 1<>2", "1");
        Kit.dueAnswer(new FixpointEngine(), "SELECT 1 WHERE 1<>1", "");
        Kit.dueFault(new FixpointEngine(), 1, "SELECT 1 WHERE 1< ^>2");
        Kit.dueFault(new FixpointEngine(), 1, "SELECT 1 WHERE 1>^<2");
        Kit.dueFault(new FixpointEngine(), 1, "SELECT 1 WHERE 1>^=2");
        Kit.dueFault(new FixpointEngine(), 1, "SELECT 1 WHERE 1=^=2");
        Kit.dueFault(new FixpointEngine(), 1, "SELECT 1 WHERE 1<^<>2");
        Kit.dueFault(new FixpointEngine(), 1, "SELECT 1 WHERE 1<>^<>2");
        Kit.dueFault(new FixpointEngine(), 1, "SELECT 1 WHERE 1<>^=2");
        Kit.dueFault(Kit.columns(1), 1, "SELECT COUNT(^)*) FROM t0 f");
        for (char sign : ",().+-=<>*".toCharArray()) {
            Kit.dueFaultAt(new FixpointEngine(), 1, 0, sign + "SELECT 1");
            Kit.dueFaultAt(new FixpointEngine(), 1, 1, " " + sign + sign + "SELECT 1");
        }
    }

    /** "Anything else .. is a token that can stand nowhere." */
    private static void codesOfNoToken() {
        String whole = "SELECT f.a FROM t0 f WHERE f.a=1";
        for (int code = 33; code <= 126; code++) {
            char other = (char) code;
            if (Character.isLetterOrDigit(other) || ",().+-=<>*".indexOf(other) >= 0) {
                continue;
            }
            for (int at = 0; at <= whole.length(); at++) {
                // Inside a keyword it cuts it, and what stands before it is none then.
                boolean inside = at > 0 && at < whole.length() && isWord(whole, at - 1) && isWord(whole, at);
                if (!inside) {
                    Kit.dueFaultAt(Kit.columns(1), 1, at, whole.substring(0, at) + other + whole.substring(at));
                }
            }
        }
    }

    /** "cut into TOKENS with any blanks (32) between". */
    private static void blanks() {
        String whole = ALL_WORDS;
        StringBuilder wide = new StringBuilder();
        for (int i = 0; i < whole.length(); i++) {
            boolean cut = i == 0 || !(isWord(whole, i - 1) && isWord(whole, i));
            wide.append(cut && wide.length() + whole.length() - i < 400 ? " " : "").append(whole.charAt(i));
        }
        Kit.dueFine(Kit.columns(1), 2, wide.toString());
        Kit.dueFine(Kit.columns(1), 0, "SELECTf.a,1FROMt0 fWHEREf.a<>1AND1IS NULL");
        Kit.dueFault(Kit.columns(1), 1, "SELECTf.a,1FROMt0 fWHEREf.a<>1AND1^ISNULL");
        Kit.dueFine(Kit.columns(1), 0, "   SELECT   f   .   a   FROM   t0   f   ");
        Kit.dueFault(Kit.columns(1), 1, "   SELECT   f   .   a   FROM   t0   f   ^.");
        Kit.dueFault(Kit.columns(1), 1, "SELECT f.a FROM t0 ^0f");
        Kit.dueFault(Kit.columns(1), 1, "SELECT 1 FROM t0   ^");
    }

    /** "of capital letters, small letters with digits, or digits as many as belong together". */
    private static void asManyAsBelongTogether() {
        Kit.dueFault(Kit.columns(1), 1, "SELECT 1 FROM t0 ^abcdefg");
        Kit.dueFault(Kit.columns(1), 1, "SELECT 1 FROM ^t0abcdef");
        Kit.dueFault(Kit.columns(1), 1, "^WITHWITH");
        Kit.dueFault(Kit.columns(1), 1, "SELECT ^12345");
        // Digits, then small letters: a NUMBER, then a NAME; capital letters, then small ones: a KEYWORD, then a NAME.
        Kit.dueFault(Kit.columns(1), 1, "SELECT 1234^abcdef");
        Kit.dueFine(Kit.columns(1), 0, "SELECT 1234FROM t0 abcdef");
        Kit.dueFine(Kit.columns(1), 0, "SELECTabcdef.a FROMt0 abcdef");
        Kit.dueFault(Kit.columns(1), 1, "SELECT ^12345abc");
        Kit.dueFault(Kit.columns(1), 1, "SELECT 1FROM t0 f^AB");
    }
}
