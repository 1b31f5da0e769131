/** Promise 5: text; and how a text is cut into tokens. */
final class TextTest {
    private TextTest() {
    }

    public static void main(String[] args) {
        bytes();
        wrongCodes();
        length();
        emptyAfterPrepare();
        tokens();
        Kit.end();
    }

    private static void bytes() {
        FixpointEngine e = new FixpointEngine();
        Kit.due("bytes of 0 are left out", e.text(0, 'S' << 24 | 'E', 'L' << 16, 'E' << 8 | 'C', 'T'), true);
        Kit.due("all are 0", e.text(0, 0, 0, 0, 0), true);
        Kit.due("the highest first", e.text(Kit.four(" 12 ", 0), 0, 0, 0, 0), true);
        Kit.due("a query", e.prepare(), 0);
        Kit.due("its answer", Kit.run(e, 1, 1), "12");
    }

    private static void wrongCodes() {
        FixpointEngine e = new FixpointEngine();
        Kit.feed(e, "SELECT ");
        for (int code : new int[] {1, 9, 10, 31, 127, 128, 200, 255}) {
            for (int shift = 0; shift < 32; shift += 8) {
                int four = Kit.four("4444", 0) & ~(255 << shift) | code << shift;
                Kit.due("code " + code + " first", e.text(four, 0, 0, 0, 0), false);
                Kit.due("code " + code + " last", e.text(Kit.four("55", 0), 0, 0, 0, four), false);
            }
        }
        Kit.due("codes 32 and 126 come", e.text(Kit.four("7 ~", 0), 0, 0, 0, 0), true);
        Kit.dueThrown("~ stands nowhere", e::prepare, IllegalArgumentException.class);
        Kit.due("nothing came of the wrong ones", e.fault(), 91);
    }

    private static void length() {
        FixpointEngine e = new FixpointEngine();
        Kit.due("398 characters", Kit.feed(e, "SELECT 1" + " ".repeat(390)), true);
        Kit.due("401 would be passed", e.text(Kit.four("+22", 0), 0, 0, 0, 0), false);
        Kit.due("in a later number, too", e.text(0, 0, '+', 0, Kit.four("22", 0)), false);
        Kit.due("400 can be", e.text(0, '+', 0, 0, '2'), true);
        Kit.due("nothing can come now", e.text(0, 0, ' ', 0, 0), false);
        Kit.due("but nothing at all can", e.text(0, 0, 0, 0, 0), true);
        Kit.due("a query", e.prepare(), 0);
        Kit.due("its answer", Kit.run(e, 1, 1), "3");
        Kit.feed(e, "SELECT 1" + " ".repeat(391));
        e.text('+', 0, 0, 0, 0);
        Kit.dueThrown("it ends too early", e::prepare, IllegalArgumentException.class);
        Kit.due("at 400", e.fault(), 4001);
    }

    private static void emptyAfterPrepare() {
        FixpointEngine e = new FixpointEngine();
        Kit.dueFault(e, 1, "SELECT 1 ^1");
        Kit.dueFine(e, 0, "SELECT 1");
        Kit.dueFault(e, 1, "^,");
        Kit.dueFault(e, 1, "  ^");
    }

    private static void tokens() {
        FixpointEngine e = new FixpointEngine();
        e.table(2);
        Kit.dueFine(e, 0, "SELECTz9.a,1FROMt0 z9WHEREz9.a<>1AND1IS NULL");
        Kit.dueFine(e, 0, "  SELECT  abcde1 . a  FROM  t0  abcde1  ");
        Kit.dueFault(e, 1, "SELECT abcde1.a FROM t0 ^abcdef1");
        Kit.dueFine(e, 0, "SELECT 0000+9999");
        Kit.dueFault(e, 1, "SELECT ^00001");
        Kit.dueFault(e, 1, "SELECT 12^ab");
        Kit.dueFault(e, 1, "^SELECTS 1");
        Kit.dueFault(e, 1, "^select 1");
        Kit.dueFault(e, 1, "SELECT 1 FROM ^T0 x");
        Kit.dueFault(e, 1, "SELECT 1 WHERE 1 < ^> 2");
        Kit.dueFine(e, 0, "SELECT 1 WHERE 1 <> 2");
        Kit.dueFault(e, 1, "SELECT 1 WHERE 1 <>^> 2");
        Kit.dueFault(e, 1, "SELECT 1 WHERE 1 <^= 2");
        Kit.dueFault(e, 1, "SELECT 1 WHERE 1<>^");
        Kit.dueFault(e, 1, "SELECT 1 WHERE 1<^");
        Kit.dueFault(e, 1, "SELECT 1 WHERE 1" + " ".repeat(383) + "<^");
        Kit.dueFault(e, 1, "^SELECTZ 1");
        Kit.dueFault(e, 1, "SELECT ^_");
        Kit.dueFault(e, 1, "SELECT 1^;");
        Kit.dueFault(e, 1, "SELECT ^ISNULL");
        Kit.dueFault(e, 1, "SELECT x.a FROM t0 x^B");
    }
}
