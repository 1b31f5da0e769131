import java.util.ArrayList;
import java.util.NoSuchElementException;

/**
 * Answers queries over small tables, with named parts that may say themselves.
 * A text is read by the Reader, looked through by the Checker and worked out by the Runner.
 */
public final class FixpointEngine {
    public static final long NULL = 1L << 40;

    private static final int MOST_TABLES = 5;
    private static final int MOST_COLUMNS = 3;
    private static final int MOST_TABLE_ROWS = 16;
    private static final int MOST_TEXT = 400;
    private static final int MOST_PARTS = 4;
    private static final int MOST_SELECTIONS = 4;
    private static final int MOST_ITEMS = 4;
    private static final int MOST_SOURCES = 3;
    private static final int MOST_CONDITIONS = 6;
    private static final int MOST_INNER = 3;
    private static final int MOST_OPERANDS = 4;
    private static final int MOST_ORDER = 2;
    private static final int MOST_ROUNDS = 30;
    private static final int MOST_ROWS = 48;

    private static final long LEAST_INT = -(1L << 31);
    private static final long GREATEST_INT = (1L << 31) - 1;
    /** Where NULL is sorted: before all ints. */
    private static final long BEFORE_ALL = LEAST_INT - 1;

    /** Every row is laid out in four cells: an answer has up to four items, a part three columns and its MARK. */
    private static final int STRIDE = 4;
    private static final int MARK = 3;
    private static final int TRAIL = 4;
    private static final int BY_NAME = 5;
    private static final int CYCLE_NAME = 6;
    private static final int NAMES_OF_PART = 7;

    /** A component's tally has how many rounds it had, and behind it what each of them brought. */
    private static final int TALLY = MOST_ROUNDS + 1;

    private static final Kind[] KINDS = Kind.values();

    private final Relation[] tables = new Relation[MOST_TABLES];
    private int tableCount;
    private final Reader reader = new Reader();
    private final Checker checker = new Checker();
    private final Runner runner = new Runner();
    private Query query;
    private int latestFault;
    private boolean answered;

    public FixpointEngine() {
        tableCount = 0;
        query = null;
        latestFault = 0;
        answered = false;
    }

    public int table(int columns) throws IllegalArgumentException, IllegalStateException {
        if (columns < 1 || columns > MOST_COLUMNS) {
            throw new IllegalArgumentException("a table has one to three columns");
        }
        if (tableCount >= MOST_TABLES) {
            throw new IllegalStateException("there are five tables");
        }
        tables[tableCount] = new Relation(MOST_TABLE_ROWS, columns);
        tableCount++;
        return tableCount - 1;
    }

    public int row(int table, int a, int b, int c, int nulls)
            throws IllegalArgumentException, IllegalStateException {
        if (table < 0 || table >= tableCount) {
            throw new IllegalArgumentException("there is no such table");
        }
        Relation to = tables[table];
        if (to.count >= MOST_TABLE_ROWS) {
            throw new IllegalStateException("the table has sixteen rows");
        }
        int first = to.count * STRIDE;
        to.cells[first] = (nulls & 1) != 0 ? NULL : a;
        to.cells[first + 1] = (nulls & 2) != 0 ? NULL : b;
        to.cells[first + 2] = (nulls & 4) != 0 ? NULL : c;
        to.count++;
        return to.count;
    }

    public int clear(int table) throws IllegalArgumentException {
        if (table < 0 || table >= tableCount) {
            throw new IllegalArgumentException("there is no such table");
        }
        int gone = tables[table].count;
        tables[table].count = 0;
        return gone;
    }

    public boolean text(int p, int q, int r, int s, int t) {
        int before = reader.length;
        boolean good = reader.take(p) && reader.take(q) && reader.take(r) && reader.take(s) && reader.take(t);
        if (!good) {
            reader.length = before;
        }
        return good;
    }

    public int prepare() throws IllegalArgumentException {
        query = null;
        answered = false;
        Query read = reader.read();
        latestFault = read == null ? reader.stuckAt() : checker.find(read, tables, tableCount);
        reader.length = 0;
        if (latestFault != 0 || read == null) {
            throw new IllegalArgumentException("the text has a fault");
        }
        query = read;
        return read.partCount;
    }

    public int fault() {
        return latestFault;
    }

    public int part(int k, int what) throws NoSuchElementException, IllegalArgumentException {
        if (query == null || k < 0 || k >= query.partCount) {
            throw new NoSuchElementException("there is no such part");
        }
        Part asked = query.parts[k];
        switch (what) {
            case 0:
                return asked.component;
            case 1:
                return asked.recursive ? 1 : 0;
            case 2:
                return asked.cycled ? asked.width + 1 : asked.width;
            default:
                throw new IllegalArgumentException("what is 0, 1 or 2");
        }
    }

    public int run(int rounds, int rows) throws IllegalArgumentException, IllegalStateException,
            ArithmeticException, UnsupportedOperationException {
        if (rounds < 1 || rounds > MOST_ROUNDS || rows < 1 || rows > MOST_ROWS) {
            throw new IllegalArgumentException("rounds are 1 to 30, rows 1 to 48");
        }
        if (query == null) {
            throw new IllegalStateException("there is no query");
        }
        answered = false;
        runner.begin(query, tables, rounds, rows);
        for (int j = 0; j < query.componentCount; j++) {
            runner.component(j);
        }
        runner.work(query.own, MOST_PARTS);
        runner.sort();
        answered = true;
        return runner.relations[MOST_PARTS].count;
    }

    public long cell(int r, int i) throws IndexOutOfBoundsException {
        if (!answered || r < 0 || r >= runner.relations[MOST_PARTS].count || i < 0 || i >= query.own.itemCount) {
            throw new IndexOutOfBoundsException("there is no such cell");
        }
        return runner.relations[MOST_PARTS].cells[runner.sorted[r] * STRIDE + i];
    }

    public int size(int k) throws IndexOutOfBoundsException {
        if (!answered || k < 0 || k >= query.partCount) {
            throw new IndexOutOfBoundsException("there is no answer, or no such part");
        }
        return runner.relations[k].count;
    }

    public int rounds(int j, int r) throws IndexOutOfBoundsException {
        if (!answered || j < 0 || j >= query.componentCount || r < 0 || r > runner.tally[j * TALLY]) {
            throw new IndexOutOfBoundsException("there is no answer, no such component or round");
        }
        return runner.tally[j * TALLY + r];
    }

    /** The kinds of tokens; a keyword's and a sign's word is how it is written. */
    private enum Kind {
        WITH("WITH"), RECURSIVE("RECURSIVE"), AS("AS"), SELECT("SELECT"), FROM("FROM"), WHERE("WHERE"), AND("AND"),
        NOT("NOT"), EXISTS("EXISTS"), IS("IS"), NULL_WORD("NULL"), UNION("UNION"), ALL("ALL"), SEARCH("SEARCH"),
        DEPTH("DEPTH"), BREADTH("BREADTH"), FIRST("FIRST"), BY("BY"), SET("SET"), CYCLE("CYCLE"), COUNT("COUNT"),
        SUM("SUM"), MIN("MIN"), MAX("MAX"), ORDER("ORDER"),
        COMMA(","), OPEN("("), CLOSE(")"), DOT("."), PLUS("+"), MINUS("-"), EQUAL("="), LESS("<"), GREATER(">"),
        STAR("*"), UNEQUAL("<>"),
        NAME(""), NUMBER(""), END(""), ODD("");

        private final String word;

        Kind(String word) {
            this.word = word;
        }
    }

    /** A query as it was read; sources and columns stand here once more, in the order of the text. */
    private static final class Query {
        final Part[] parts = new Part[MOST_PARTS];
        int partCount;
        boolean recursive;
        Selection own;
        final Term[] order = new Term[MOST_ORDER];
        int orderCount;
        int orderPlace;
        int componentCount;
        final ArrayList<Source> sources = new ArrayList<>();
        final ArrayList<Term> columns = new ArrayList<>();
    }

    /** A named part; words and places hold its columns, MARK, TRAIL and the names behind BY and CYCLE (0: none). */
    private static final class Part {
        long name;
        int place;
        int width;
        final long[] words = new long[NAMES_OF_PART];
        final int[] places = new int[NAMES_OF_PART];
        boolean breadth;
        boolean searched;
        boolean cycled;
        boolean union;
        boolean unionAll;
        final Selection[] selections = new Selection[MOST_SELECTIONS];
        int selectionCount;
        int needed;
        int members;
        int component = -1;
        boolean recursive;
        int searchColumn = -1;
        int cycleColumn = -1;

        /** Which of the columns in ( ) bears the name that stands at this place of the words, or -1. */
        int columnNamedAt(int which) {
            for (int i = 0; i < width; i++) {
                if (words[i] == words[which]) {
                    return i;
                }
            }
            return -1;
        }
    }

    /** SELECT .. FROM .. WHERE; a gather of null is an item without COUNT, SUM, MIN or MAX. */
    private static final class Selection {
        final int owner;
        final int place;
        final Term[] items = new Term[MOST_ITEMS];
        final Kind[] gathers = new Kind[MOST_ITEMS];
        int itemCount;
        int gatherCount;
        final Source[] sources = new Source[MOST_SOURCES];
        int sourceCount;
        final Condition[] conditions = new Condition[MOST_CONDITIONS];
        int conditionCount;
        /** How often a part of the owner's own component is named. */
        int namings;
        /** Whether an item could leave the range of int: only one of more than one operand can. */
        boolean risky;

        Selection(int owner, int place) {
            this.owner = owner;
            this.place = place;
        }
    }

    /** A source with what its name means (part or table, -1: not this), and where it stands in a run. */
    private static final class Source {
        final Selection selection;
        final int slot;
        final int place;
        long name;
        int aliasPlace;
        long alias;
        int part = -1;
        int table = -1;
        Relation relation;
        int from;
        int to;
        int at;
        boolean unmarked;

        Source(Selection selection, int slot, int place) {
            this.selection = selection;
            this.slot = slot;
            this.place = place;
        }

        boolean isInner() {
            return slot < 0;
        }

        /** A row with MARK 1 is not there for the part's own selections. */
        boolean passesOver(int row) {
            return unmarked && relation.cells[row * STRIDE + MARK] == 1;
        }
    }

    /** A comparison, IS NULL, or NOT EXISTS (then it has a source, and conditions inside). */
    private static final class Condition {
        Kind test = Kind.ODD;
        Term left;
        Term right;
        Source source;
        final Condition[] inner = new Condition[MOST_INNER];
        int innerCount;
        /** How many of the selection's sources must have a row before this can be tested. */
        int level;
    }

    /** An operand; an expression is the chain of its operands. */
    private static final class Term {
        final boolean minus;
        final int place;
        final Selection selection;
        final Condition top;
        long value;
        long alias;
        long name;
        boolean ordering;
        Source source;
        int index;
        Term next;

        Term(boolean minus, int place, Selection selection, Condition top) {
            this.minus = minus;
            this.place = place;
            this.selection = selection;
            this.top = top;
        }

        /** The value of the chain that begins here; no int sum of four comes near to what stands for NULL. */
        long value() {
            long sum = 0;
            for (Term term = this; term != null; term = term.next) {
                long cell = term.source == null
                        ? term.value
                        : term.source.relation.cells[term.source.at * STRIDE + term.index];
                if (cell == NULL) {
                    return NULL;
                }
                sum = term.minus ? sum - cell : sum + cell;
            }
            return sum;
        }
    }

    /**
     * Holds the text, cuts it into tokens and reads them as a query.
     * Once a token can't stand, the reader is stuck: it takes no more tokens, so that all loops end.
     */
    private static final class Reader {
        final char[] letters = new char[MOST_TEXT];
        int length;
        final Kind[] kinds = new Kind[MOST_TEXT + 1];
        final int[] places = new int[MOST_TEXT + 1];
        final long[] words = new long[MOST_TEXT + 1];
        int at;
        boolean stuck;
        Query query;
        Selection selection;
        Condition top;

        /** Takes the four bytes of a number; false at the first that can't come. */
        boolean take(int four) {
            for (int shift = 24; shift >= 0; shift -= 8) {
                int code = (four >>> shift) & 255;
                if (code == 0) {
                    continue;
                }
                if (code < 32 || code > 126 || length >= MOST_TEXT) {
                    return false;
                }
                letters[length] = (char) code;
                length++;
            }
            return true;
        }

        int stuckAt() {
            return 1 + 10 * places[at];
        }

        void cut() {
            int count = 0;
            int end = 0;
            for (int i = 0; i < length; i++) {
                if (i < end || letters[i] == ' ') {
                    continue;
                }
                end = endOf(i);
                kinds[count] = kindOf(i, end);
                places[count] = i;
                words[count] = wordOf(kinds[count], i, end);
                count++;
            }
            kinds[count] = Kind.END;
            places[count] = length;
            words[count] = 0;
        }

        int endOf(int from) {
            char first = letters[from];
            if (first == '<' && from + 1 < length && letters[from + 1] == '>') {
                return from + 2;
            }
            int end = from + 1;
            while (end < length && belongs(first, letters[end])) {
                end++;
            }
            return end;
        }

        static boolean belongs(char first, char later) {
            if (isSmall(first)) {
                return isSmall(later) || isDigit(later);
            }
            if (isDigit(first)) {
                return isDigit(later);
            }
            return isCapital(first) && isCapital(later);
        }

        static boolean isSmall(char letter) {
            return letter >= 'a' && letter <= 'z';
        }

        static boolean isDigit(char letter) {
            return letter >= '0' && letter <= '9';
        }

        static boolean isCapital(char letter) {
            return letter >= 'A' && letter <= 'Z';
        }

        Kind kindOf(int from, int end) {
            if (isSmall(letters[from])) {
                return end - from <= 6 ? Kind.NAME : Kind.ODD;
            }
            if (isDigit(letters[from])) {
                return end - from <= 4 ? Kind.NUMBER : Kind.ODD;
            }
            for (int k = 0; k < KINDS.length; k++) {
                if (isWritten(KINDS[k].word, from, end)) {
                    return KINDS[k];
                }
            }
            return Kind.ODD;
        }

        boolean isWritten(String word, int from, int end) {
            if (word.length() != end - from) {
                return false;
            }
            for (int i = 0; i < word.length(); i++) {
                if (word.charAt(i) != letters[from + i]) {
                    return false;
                }
            }
            return true;
        }

        /** A number's value; a name's up to six characters side by side, so that names compare as numbers. */
        long wordOf(Kind kind, int from, int end) {
            long word = 0;
            if (kind == Kind.NUMBER) {
                for (int i = from; i < end; i++) {
                    word = word * 10 + (letters[i] - '0');
                }
            } else if (kind == Kind.NAME) {
                for (int i = from; i < end; i++) {
                    word = (word << 8) + letters[i];
                }
            }
            return word;
        }

        boolean accept(Kind kind) {
            if (stuck || kinds[at] != kind) {
                return false;
            }
            at++;
            return true;
        }

        void expect(Kind kind) {
            if (stuck || kinds[at] != kind) {
                stuck = true;
            } else {
                at++;
            }
        }

        long name() {
            if (stuck || kinds[at] != Kind.NAME) {
                stuck = true;
                return 0;
            }
            at++;
            return words[at - 1];
        }

        /** The query, or null if the text is none. */
        Query read() {
            cut();
            at = 0;
            stuck = false;
            query = new Query();
            if (accept(Kind.WITH)) {
                query.recursive = accept(Kind.RECURSIVE);
                boolean more = true;
                for (int i = 0; i < MOST_PARTS && more; i++) {
                    Part part = head();
                    query.parts[i] = part;
                    query.partCount = i + 1;
                    boolean another = true;
                    for (int k = 0; k < MOST_SELECTIONS && another; k++) {
                        part.selections[k] = selection(i);
                        part.selectionCount = k + 1;
                        another = k + 1 < MOST_SELECTIONS && joins(part);
                    }
                    tail(part);
                    more = i + 1 < MOST_PARTS && accept(Kind.COMMA);
                }
            }
            query.own = selection(query.partCount);
            query.orderPlace = places[at];
            if (accept(Kind.ORDER)) {
                order();
            }
            return stuck || kinds[at] != Kind.END ? null : query;
        }

        Part head() {
            Part part = new Part();
            part.place = places[at];
            part.name = name();
            expect(Kind.OPEN);
            boolean more = true;
            for (int i = 0; i < MOST_COLUMNS && more; i++) {
                nameInto(part, i);
                part.width = i + 1;
                more = i + 1 < MOST_COLUMNS && accept(Kind.COMMA);
            }
            expect(Kind.CLOSE);
            expect(Kind.AS);
            expect(Kind.OPEN);
            return part;
        }

        void nameInto(Part part, int which) {
            part.places[which] = places[at];
            part.words[which] = name();
        }

        boolean joins(Part part) {
            if (!accept(Kind.UNION)) {
                return false;
            }
            if (accept(Kind.ALL)) {
                part.unionAll = true;
            } else {
                part.union = true;
            }
            return true;
        }

        void tail(Part part) {
            expect(Kind.CLOSE);
            part.searched = accept(Kind.SEARCH);
            if (part.searched) {
                part.breadth = accept(Kind.BREADTH);
                if (!part.breadth) {
                    expect(Kind.DEPTH);
                }
                expect(Kind.FIRST);
                expect(Kind.BY);
                nameInto(part, BY_NAME);
                expect(Kind.SET);
                nameInto(part, TRAIL);
            }
            part.cycled = accept(Kind.CYCLE);
            if (part.cycled) {
                nameInto(part, CYCLE_NAME);
                expect(Kind.SET);
                nameInto(part, MARK);
            }
        }

        void order() {
            expect(Kind.BY);
            boolean more = true;
            for (int i = 0; i < MOST_ORDER && more; i++) {
                stuck = stuck || kinds[at] != Kind.NAME;
                query.order[i] = operand(false);
                query.order[i].ordering = true;
                query.orderCount = i + 1;
                more = i + 1 < MOST_ORDER && accept(Kind.COMMA);
            }
        }

        Selection selection(int owner) {
            Selection made = new Selection(owner, places[at]);
            selection = made;
            top = null;
            expect(Kind.SELECT);
            boolean more = true;
            for (int i = 0; i < MOST_ITEMS && more; i++) {
                item();
                more = i + 1 < MOST_ITEMS && accept(Kind.COMMA);
            }
            more = accept(Kind.FROM);
            for (int i = 0; i < MOST_SOURCES && more; i++) {
                made.sources[i] = source(i);
                made.sourceCount = i + 1;
                more = i + 1 < MOST_SOURCES && accept(Kind.COMMA);
            }
            more = accept(Kind.WHERE);
            for (int i = 0; i < MOST_CONDITIONS && more; i++) {
                made.conditions[i] = condition();
                made.conditionCount = i + 1;
                more = i + 1 < MOST_CONDITIONS && accept(Kind.AND);
            }
            return made;
        }

        void item() {
            int i = selection.itemCount;
            Kind kind = kinds[at];
            selection.itemCount++;
            if (accept(Kind.COUNT)) {
                expect(Kind.OPEN);
                expect(Kind.STAR);
                expect(Kind.CLOSE);
            } else if (accept(Kind.SUM) || accept(Kind.MIN) || accept(Kind.MAX)) {
                expect(Kind.OPEN);
                selection.items[i] = expression();
                expect(Kind.CLOSE);
            } else {
                selection.items[i] = expression();
                selection.risky = selection.risky || selection.items[i].next != null;
                return;
            }
            selection.gathers[i] = kind;
            selection.gatherCount++;
        }

        Source source(int slot) {
            Source source = new Source(selection, slot, places[at]);
            source.name = name();
            source.aliasPlace = places[at];
            source.alias = name();
            query.sources.add(source);
            return source;
        }

        Condition condition() {
            Condition condition = new Condition();
            top = condition;
            if (!accept(Kind.NOT)) {
                comparison(condition);
                top = null;
                return condition;
            }
            condition.test = Kind.EXISTS;
            expect(Kind.EXISTS);
            expect(Kind.OPEN);
            expect(Kind.SELECT);
            stuck = stuck || kinds[at] != Kind.NUMBER || words[at] != 1;
            expect(Kind.NUMBER);
            expect(Kind.FROM);
            condition.source = source(-1);
            boolean more = accept(Kind.WHERE);
            for (int i = 0; i < MOST_INNER && more; i++) {
                condition.inner[i] = new Condition();
                condition.innerCount = i + 1;
                comparison(condition.inner[i]);
                more = i + 1 < MOST_INNER && accept(Kind.AND);
            }
            expect(Kind.CLOSE);
            top = null;
            return condition;
        }

        void comparison(Condition condition) {
            condition.left = expression();
            condition.test = kinds[at];
            if (accept(Kind.IS)) {
                expect(Kind.NULL_WORD);
            } else if (accept(Kind.EQUAL) || accept(Kind.UNEQUAL) || accept(Kind.LESS) || accept(Kind.GREATER)) {
                condition.right = expression();
            } else {
                stuck = true;
            }
        }

        Term expression() {
            Term first = operand(false);
            Term last = first;
            for (int i = 1; i < MOST_OPERANDS; i++) {
                boolean minus = accept(Kind.MINUS);
                if (!minus && !accept(Kind.PLUS)) {
                    break;
                }
                last.next = operand(minus);
                last = last.next;
            }
            return first;
        }

        Term operand(boolean minus) {
            Term term = new Term(minus, places[at], selection, top);
            if (accept(Kind.NULL_WORD)) {
                term.value = NULL;
            } else if (accept(Kind.NUMBER)) {
                term.value = words[at - 1];
            } else {
                term.alias = name();
                expect(Kind.DOT);
                term.name = name();
                query.columns.add(term);
            }
            return term;
        }
    }

    /** Gives the names of a query their meaning, orders its components and looks for the faults 2 to 8. */
    private static final class Checker {
        private static final int NOWHERE = MOST_TEXT + 1;
        private static final int FIRST_FAULT = 2;
        private static final int LAST_FAULT = 8;

        Query query;
        Relation[] tables;
        int tableCount;
        int lowest;

        /** The first fault's number + 10 * its place, or 0. */
        int find(Query looked, Relation[] known, int knownCount) {
            query = looked;
            tables = known;
            tableCount = knownCount;
            nameSources();
            nameColumns();
            needParts();
            orderComponents();
            countNamings();
            for (int number = FIRST_FAULT; number <= LAST_FAULT; number++) {
                lowest = NOWHERE;
                look(number);
                if (lowest != NOWHERE) {
                    return number + 10 * lowest;
                }
            }
            levelConditions();
            return 0;
        }

        void look(int number) {
            if (number == 2) {
                lookAtParts();
                lookAtSources();
                lookAtColumns();
                note(query.orderCount > 0 && query.own.gatherCount > 0, query.orderPlace);
                return;
            }
            if (number == 5) {
                lookForBarred();
                return;
            }
            for (int i = 0; i < query.partCount; i++) {
                Part part = query.parts[i];
                if (number == 3) {
                    lookAtWidths(part);
                } else {
                    note(isWrong(part, number), part.place);
                }
            }
        }

        void note(boolean wrong, int place) {
            if (wrong && place < lowest) {
                lowest = place;
            }
        }

        void nameSources() {
            for (int i = 0; i < query.sources.size(); i++) {
                Source source = query.sources.get(i);
                for (int k = query.partCount - 1; k >= 0; k--) {
                    if (query.parts[k].name == source.name) {
                        source.part = k;
                    }
                }
                long number = source.name - (('t' << 8) + '0');
                if (source.part < 0 && number >= 0 && number < tableCount) {
                    source.table = (int) number;
                }
            }
        }

        void nameColumns() {
            for (int i = 0; i < query.partCount; i++) {
                Part part = query.parts[i];
                part.searchColumn = part.columnNamedAt(BY_NAME);
                part.cycleColumn = part.columnNamedAt(CYCLE_NAME);
            }
            for (int i = 0; i < query.columns.size(); i++) {
                Term term = query.columns.get(i);
                term.source = knownSource(term);
                term.index = term.source == null ? -1 : indexIn(term.source, term.name);
            }
        }

        static Source knownSource(Term term) {
            for (int i = 0; i < term.selection.sourceCount; i++) {
                if (term.selection.sources[i].alias == term.alias) {
                    return term.selection.sources[i];
                }
            }
            if (term.top == null || term.top.source == null || term.top.source.alias != term.alias) {
                return null;
            }
            return term.top.source;
        }

        /** The column's number in the source, MARK's or TRAIL's, or -1. */
        int indexIn(Source source, long name) {
            if (source.part >= 0) {
                Part part = query.parts[source.part];
                for (int i = 0; i <= TRAIL; i++) {
                    if (part.words[i] == name) {
                        return i;
                    }
                }
                return -1;
            }
            long column = name - 'a';
            boolean there = source.table >= 0 && column >= 0 && column < tables[source.table].columns;
            return there ? (int) column : -1;
        }

        void needParts() {
            for (int i = 0; i < query.sources.size(); i++) {
                Source source = query.sources.get(i);
                if (source.part >= 0 && source.selection.owner < query.partCount) {
                    query.parts[source.selection.owner].needed |= 1 << source.part;
                }
            }
            for (int k = 0; k < query.partCount; k++) {
                for (int i = 0; i < query.partCount; i++) {
                    if (((query.parts[i].needed >> k) & 1) != 0) {
                        query.parts[i].needed |= query.parts[k].needed;
                    }
                }
            }
            for (int i = 0; i < query.partCount; i++) {
                Part part = query.parts[i];
                part.recursive = ((part.needed >> i) & 1) != 0;
                part.members = 1 << i;
                for (int k = 0; k < query.partCount; k++) {
                    boolean mutual = ((part.needed >> k) & 1) != 0 && ((query.parts[k].needed >> i) & 1) != 0;
                    part.members |= mutual ? 1 << k : 0;
                }
            }
        }

        void orderComponents() {
            int come = 0;
            for (int number = 0; number < query.partCount; number++) {
                int next = nextReady(come);
                if (next < 0) {
                    return;
                }
                int members = query.parts[next].members;
                for (int i = 0; i < query.partCount; i++) {
                    if (((members >> i) & 1) != 0) {
                        query.parts[i].component = number;
                    }
                }
                come |= members;
                query.componentCount = number + 1;
            }
        }

        int nextReady(int come) {
            for (int i = 0; i < query.partCount; i++) {
                Part part = query.parts[i];
                if (((come >> i) & 1) == 0 && (part.needed & ~part.members & ~come) == 0) {
                    return i;
                }
            }
            return -1;
        }

        boolean namesOwnComponent(Source source) {
            int owner = source.selection.owner;
            return source.part >= 0 && owner < query.partCount && query.parts[owner].recursive
                    && query.parts[owner].component == query.parts[source.part].component;
        }

        void countNamings() {
            for (int i = 0; i < query.sources.size(); i++) {
                Source source = query.sources.get(i);
                if (namesOwnComponent(source)) {
                    source.selection.namings++;
                }
            }
        }

        void lookAtParts() {
            for (int i = 0; i < query.partCount; i++) {
                Part part = query.parts[i];
                for (int k = 0; k < i; k++) {
                    note(query.parts[k].name == part.name, part.place);
                }
                for (int x = 0; x <= TRAIL; x++) {
                    for (int y = 0; y < x; y++) {
                        boolean same = part.words[x] != 0 && part.words[x] == part.words[y];
                        note(same, Math.max(part.places[x], part.places[y]));
                    }
                }
                note(part.searched && part.searchColumn < 0, part.places[BY_NAME]);
                note(part.cycled && part.cycleColumn < 0, part.places[CYCLE_NAME]);
            }
        }

        void lookAtSources() {
            for (int i = 0; i < query.sources.size(); i++) {
                Source source = query.sources.get(i);
                boolean early = !query.recursive && source.part >= source.selection.owner;
                note(early || (source.part < 0 && source.table < 0), source.place);
                int before = source.isInner() ? source.selection.sourceCount : source.slot;
                for (int k = 0; k < before; k++) {
                    note(source.selection.sources[k].alias == source.alias, source.aliasPlace);
                }
            }
        }

        void lookAtColumns() {
            for (int i = 0; i < query.columns.size(); i++) {
                Term term = query.columns.get(i);
                note(term.index < 0 || (term.index == TRAIL && !term.ordering), term.place);
            }
        }

        void lookAtWidths(Part part) {
            for (int i = 0; i < part.selectionCount; i++) {
                note(part.selections[i].itemCount != part.width, part.selections[i].place);
            }
        }

        void lookForBarred() {
            for (int i = 0; i < query.sources.size(); i++) {
                Source source = query.sources.get(i);
                boolean barring = source.isInner() || source.selection.gatherCount > 0;
                note(barring && namesOwnComponent(source), source.place);
            }
        }

        /** The faults that are told at a part's name. */
        boolean isWrong(Part part, int number) {
            if (number == 4) {
                return part.union && part.unionAll;
            }
            if (number == 6) {
                return part.selections[0].namings > 0;
            }
            if (number == 7) {
                return part.recursive && (part.unionAll || part.searched || part.cycled)
                        && (Integer.bitCount(part.members) > 1 || namesItselfTwice(part));
            }
            return number == 8 && (part.searched || part.cycled) && !part.recursive;
        }

        static boolean namesItselfTwice(Part part) {
            for (int i = 0; i < part.selectionCount; i++) {
                if (part.selections[i].namings > 1) {
                    return true;
                }
            }
            return false;
        }

        /** A condition is tested as soon as the sources it speaks of have a row: that spares combinations. */
        void levelConditions() {
            for (int i = 0; i < query.columns.size(); i++) {
                Term term = query.columns.get(i);
                if (term.top != null && term.source != null) {
                    term.top.level = Math.max(term.top.level, term.source.slot + 1);
                }
            }
        }
    }

    /** The rows of a table, of a part or of the answer; one place more than rows, for a row that may come. */
    private static final class Relation {
        final int columns;
        final long[] cells;
        /** The row that a row came of (-1: none), and how long its trails are. */
        final int[] parents;
        final int[] lengths;
        int count;
        /** How many rows there were when this round, and the one before, began. */
        int start;
        int before;

        Relation(int most, int columns) {
            this.columns = columns;
            cells = new long[(most + 1) * STRIDE];
            parents = new int[most + 1];
            lengths = new int[most + 1];
        }

        void empty() {
            count = 0;
            start = 0;
            before = 0;
        }

        void beginRound() {
            before = start;
            start = count;
        }

        /** Lays the trails of the row that may come behind those of its parent. */
        void grow(int parent, int cycleColumn) {
            parents[count] = parent;
            lengths[count] = parent < 0 ? 1 : lengths[parent] + 1;
            long mark = 0;
            if (cycleColumn >= 0) {
                long own = cells[count * STRIDE + cycleColumn];
                int up = parent;
                for (int i = 1; i < lengths[count] && up >= 0; i++) {
                    if (own != NULL && cells[up * STRIDE + cycleColumn] == own) {
                        mark = 1;
                    }
                    up = parents[up];
                }
            }
            cells[count * STRIDE + MARK] = mark;
        }

        boolean hasEqual(Part part) {
            for (int i = 0; i < count; i++) {
                if (isSame(part, i)) {
                    return true;
                }
            }
            return false;
        }

        /** Whether a row and the one that may come are equal, with their trails. */
        boolean isSame(Part part, int row) {
            for (int i = 0; i < part.width; i++) {
                if (cells[row * STRIDE + i] != cells[count * STRIDE + i]) {
                    return false;
                }
            }
            if (!part.searched && !part.cycled) {
                return true;
            }
            if (lengths[row] != lengths[count]) {
                return false;
            }
            int deep = part.breadth || part.searchColumn < 0 ? part.cycleColumn : part.searchColumn;
            int other = part.cycleColumn < 0 ? deep : part.cycleColumn;
            int x = row;
            int y = count;
            for (int i = 0; i < lengths[row] && deep >= 0 && x >= 0 && y >= 0; i++) {
                if (cells[x * STRIDE + deep] != cells[y * STRIDE + deep]
                        || cells[x * STRIDE + other] != cells[y * STRIDE + other]) {
                    return false;
                }
                x = parents[x];
                y = parents[y];
            }
            return true;
        }

        /** Trails are walked from their ends; the last difference met is the first in them. */
        int compareTrails(Part part, int a, int b) {
            int column = part.searchColumn;
            int result = Integer.compare(lengths[a], lengths[b]);
            if (part.breadth) {
                return result != 0 ? result : compareCells(cells[a * STRIDE + column], cells[b * STRIDE + column]);
            }
            int x = a;
            int y = b;
            for (int length = Math.max(lengths[a], lengths[b]); length > 0 && x >= 0 && y >= 0; length--) {
                boolean inX = lengths[x] == length;
                boolean inY = lengths[y] == length;
                int step = inX && inY ? compareCells(cells[x * STRIDE + column], cells[y * STRIDE + column]) : 0;
                result = step != 0 ? step : result;
                x = inX ? parents[x] : x;
                y = inY ? parents[y] : y;
            }
            return result;
        }

        static int compareCells(long x, long y) {
            return Long.compare(x == NULL ? BEFORE_ALL : x, y == NULL ? BEFORE_ALL : y);
        }
    }

    /** Works a query out. Relation MOST_PARTS is the answer; those before it are the parts. */
    private static final class Runner {
        final Relation[] relations = new Relation[MOST_PARTS + 1];
        final int[] tally = new int[MOST_PARTS * TALLY];
        final int[] sorted = new int[MOST_ROWS + 1];
        final long[] keys = new long[(MOST_ROWS + 1) * MOST_ORDER];
        final long[] items = new long[MOST_ITEMS];
        final long[] gathered = new long[MOST_ROWS * MOST_ITEMS];
        final int[] counted = new int[MOST_ROWS * MOST_ITEMS];
        Query query;
        Relation[] tables;
        int mostRounds;
        int allowed;
        int total;
        Selection selection;
        Part part;
        Relation target;
        int groupCount;
        boolean crowded;
        boolean overfull;

        Runner() {
            for (int i = 0; i <= MOST_PARTS; i++) {
                relations[i] = new Relation(MOST_ROWS, STRIDE);
            }
        }

        void begin(Query begun, Relation[] known, int rounds, int rows) {
            query = begun;
            tables = known;
            mostRounds = rounds;
            allowed = rows;
            total = 0;
            for (int i = 0; i <= MOST_PARTS; i++) {
                relations[i].empty();
            }
        }

        void component(int number) {
            for (int round = 1; round <= mostRounds; round++) {
                int before = total;
                boolean recursive = beginRound(number);
                for (int i = 0; i < query.partCount; i++) {
                    Part worked = query.parts[i];
                    for (int k = 0; k < worked.selectionCount && worked.component == number; k++) {
                        // What does not name the component gives in later rounds what is there already.
                        if (round == 1 || worked.selections[k].namings > 0) {
                            work(worked.selections[k], i);
                        }
                    }
                }
                tally[number * TALLY] = round;
                tally[number * TALLY + round] = total - before;
                if (!recursive || total == before) {
                    return;
                }
            }
            throw new UnsupportedOperationException("more rounds than allowed");
        }

        /** Whether the component is recursive, too. */
        boolean beginRound(int number) {
            boolean recursive = false;
            for (int i = 0; i < query.partCount; i++) {
                if (query.parts[i].component == number) {
                    relations[i].beginRound();
                    recursive = query.parts[i].recursive;
                }
            }
            return recursive;
        }

        void work(Selection worked, int where) {
            selection = worked;
            part = where < query.partCount ? query.parts[where] : null;
            target = relations[where];
            crowded = false;
            overfull = false;
            groupCount = 0;
            if (worked.gatherCount == worked.itemCount) {
                addGroup();
            }
            for (int i = 0; i < worked.sourceCount; i++) {
                bind(worked.sources[i]);
            }
            for (int i = 0; i < worked.conditionCount; i++) {
                if (worked.conditions[i].source != null) {
                    bind(worked.conditions[i].source);
                }
            }
            combine(0);
            if (worked.gatherCount > 0) {
                giveGroups();
            }
            if (overfull) {
                throw new UnsupportedOperationException("more rows than allowed");
            }
        }

        /** Sets the rows that a source has for the selection: of its own component, those of before the round. */
        void bind(Source source) {
            source.unmarked = false;
            source.from = 0;
            if (source.part < 0) {
                source.relation = tables[source.table];
                source.to = source.relation.count;
                return;
            }
            Part named = query.parts[source.part];
            source.relation = relations[source.part];
            source.to = source.relation.count;
            if (part != null && part.component == named.component) {
                source.from = named.unionAll ? source.relation.before : 0;
                source.to = source.relation.start;
                source.unmarked = named.cycled;
            }
        }

        /** Gives the sources from this level on a row, in all ways for which the conditions hold. */
        void combine(int level) {
            // Only an item out of range could still come before these errors.
            if ((crowded || overfull) && !selection.risky) {
                return;
            }
            for (int i = 0; i < selection.conditionCount; i++) {
                if (selection.conditions[i].level == level && !holds(selection.conditions[i])) {
                    return;
                }
            }
            if (level >= selection.sourceCount) {
                takeCombination();
                return;
            }
            Source source = selection.sources[level];
            for (int i = source.from; i < source.to; i++) {
                source.at = i;
                if (!source.passesOver(i)) {
                    combine(level + 1);
                }
            }
        }

        static boolean holds(Condition condition) {
            return condition.source == null ? compares(condition) : !exists(condition);
        }

        static boolean exists(Condition condition) {
            Source source = condition.source;
            for (int i = source.from; i < source.to; i++) {
                source.at = i;
                boolean all = true;
                for (int k = 0; k < condition.innerCount && all; k++) {
                    all = compares(condition.inner[k]);
                }
                if (all) {
                    return true;
                }
            }
            return false;
        }

        static boolean compares(Condition condition) {
            long left = condition.left.value();
            if (condition.test == Kind.IS) {
                return left == NULL;
            }
            long right = condition.right == null ? NULL : condition.right.value();
            if (left == NULL || right == NULL) {
                return false;
            }
            switch (condition.test) {
                case EQUAL:
                    return left == right;
                case UNEQUAL:
                    return left != right;
                case LESS:
                    return left < right;
                case GREATER:
                    return left > right;
                default:
                    return false;
            }
        }

        static boolean isOutOfRange(long value) {
            return value != NULL && (value < LEAST_INT || value > GREATEST_INT);
        }

        void takeCombination() {
            for (int i = 0; i < selection.itemCount; i++) {
                if (selection.gathers[i] == null) {
                    items[i] = selection.items[i].value();
                    if (isOutOfRange(items[i])) {
                        throw new ArithmeticException("an item is out of range");
                    }
                }
            }
            if (selection.gatherCount > 0) {
                gather();
            } else {
                come();
            }
        }

        void gather() {
            int group = findGroup();
            if (group < 0) {
                return;
            }
            for (int i = 0; i < selection.itemCount; i++) {
                int at = group * MOST_ITEMS + i;
                if (selection.gathers[i] == Kind.COUNT) {
                    gathered[at]++;
                } else if (selection.gathers[i] != null) {
                    addTo(at, selection.gathers[i], selection.items[i].value());
                }
            }
        }

        void addTo(int at, Kind kind, long value) {
            if (value == NULL) {
                return;
            }
            if (kind == Kind.SUM) {
                gathered[at] += value;
            } else if (counted[at] == 0) {
                gathered[at] = value;
            } else {
                gathered[at] = kind == Kind.MIN ? Math.min(gathered[at], value) : Math.max(gathered[at], value);
            }
            counted[at]++;
        }

        /** The group of the items, made if it is not there yet; -1 if there are more than allowed. */
        int findGroup() {
            for (int g = 0; g < groupCount; g++) {
                boolean same = true;
                for (int i = 0; i < selection.itemCount && same; i++) {
                    same = selection.gathers[i] != null || gathered[g * MOST_ITEMS + i] == items[i];
                }
                if (same) {
                    return g;
                }
            }
            if (groupCount >= allowed) {
                crowded = true;
                return -1;
            }
            addGroup();
            return groupCount - 1;
        }

        void addGroup() {
            for (int i = 0; i < selection.itemCount; i++) {
                int at = groupCount * MOST_ITEMS + i;
                gathered[at] = selection.gathers[i] == null ? items[i] : 0;
                counted[at] = 0;
            }
            groupCount++;
        }

        void giveGroups() {
            if (crowded) {
                throw new UnsupportedOperationException("more groups than rows are allowed");
            }
            // A sum may grow past all, even to what stands for NULL: so it is tested before.
            for (int g = 0; g < groupCount; g++) {
                for (int i = 0; i < selection.itemCount; i++) {
                    int at = g * MOST_ITEMS + i;
                    if (counted[at] > 0 && (gathered[at] == NULL || isOutOfRange(gathered[at]))) {
                        throw new ArithmeticException("a SUM, MIN or MAX is out of range");
                    }
                }
            }
            for (int g = 0; g < groupCount; g++) {
                for (int i = 0; i < selection.itemCount; i++) {
                    int at = g * MOST_ITEMS + i;
                    boolean counts = selection.gathers[i] == null || selection.gathers[i] == Kind.COUNT;
                    items[i] = counts || counted[at] > 0 ? gathered[at] : NULL;
                }
                come();
            }
        }

        /** The items come as a row, if the part takes it; they are laid behind its rows first, to be compared. */
        void come() {
            int first = target.count * STRIDE;
            for (int i = 0; i < selection.itemCount; i++) {
                target.cells[first + i] = items[i];
            }
            if (part == null) {
                keepKeys();
            } else {
                if (part.searched || part.cycled) {
                    target.grow(parentRow(), part.cycleColumn);
                }
                if (part.union && target.hasEqual(part)) {
                    return;
                }
            }
            if (total >= allowed) {
                overfull = true;
                return;
            }
            target.count++;
            total++;
        }

        int parentRow() {
            for (int i = 0; i < selection.sourceCount; i++) {
                if (selection.sources[i].part == selection.owner) {
                    return selection.sources[i].at;
                }
            }
            return -1;
        }

        /** Of a column of ORDER BY its cell is kept; of a trail the row that has it. */
        void keepKeys() {
            for (int k = 0; k < query.orderCount; k++) {
                Term key = query.order[k];
                boolean trail = key.index == TRAIL;
                keys[target.count * MOST_ORDER + k] = trail ? key.source.at : key.value();
            }
        }

        void sort() {
            Relation answer = relations[MOST_PARTS];
            for (int r = 0; r < answer.count; r++) {
                int to = r;
                while (to > 0 && compareRows(r, sorted[to - 1]) < 0) {
                    sorted[to] = sorted[to - 1];
                    to--;
                }
                sorted[to] = r;
            }
        }

        int compareRows(int x, int y) {
            for (int k = 0; k < query.orderCount; k++) {
                int result = compareKeys(query.order[k], keys[x * MOST_ORDER + k], keys[y * MOST_ORDER + k]);
                if (result != 0) {
                    return result;
                }
            }
            long[] cells = relations[MOST_PARTS].cells;
            for (int i = 0; i < query.own.itemCount; i++) {
                int result = Relation.compareCells(cells[x * STRIDE + i], cells[y * STRIDE + i]);
                if (result != 0) {
                    return result;
                }
            }
            return 0;
        }

        int compareKeys(Term key, long x, long y) {
            if (key.index != TRAIL) {
                return Relation.compareCells(x, y);
            }
            return relations[key.source.part].compareTrails(query.parts[key.source.part], (int) x, (int) y);
        }
    }
}
