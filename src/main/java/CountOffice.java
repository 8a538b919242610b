import java.util.Arrays;
import java.util.NoSuchElementException;

/** An office that makes a land's figures, and lets no one be told of. DOC.md says what each call answers. */
public final class CountOffice {
    public static final int NONE = -1;

    private static final int GAP = -1;
    // Answers "there is none" where NONE has a meaning of its own.
    private static final int NOT = -2;
    private static final int NO_SET = -3;
    private static final long NO_FIGURE = 1L << 63;

    private static final int FINE = 0;
    private static final int ABSENT = 1;
    private static final int NUMBER = 2;
    private static final int NO_ROOM = 3;
    private static final int FAULTY = 4;
    private static final int UNFIT = 5;
    private static final int NO_WAY = 6;

    private static final int FORM = 1;
    private static final int UNTOLD = 2;
    private static final int AGAIN = 3;
    private static final int BOUNDS = 4;
    private static final int MANY = 5;

    private static final int TAPE_BYTES = 500;
    private static final int FED_BYTES = 20;
    private static final int MAX_FIELDS = 6;
    private static final int MAX_VALUES = 10;
    private static final int MAX_RULES = 12;
    private static final int MAX_ONES = 12;
    private static final int MAX_SPACE = 20000;
    private static final int MAX_THING = 99;
    private static final int MAX_ROWS = 60;
    private static final int MAX_WEIGHT = 99;
    private static final int MAX_DAY = 999;
    private static final int MAX_PASS = 100;
    private static final int MAX_LOT_OF_FILLING = 999;
    private static final int FILLINGS = 5;
    private static final int MAX_TABLES = 8;
    private static final int MAX_CELLS = 100;
    private static final int MAX_AGREED_TOP = 2;
    private static final int MAX_KNOWN = 1000000;
    private static final int MAX_GROUP = 9;
    private static final int GUARDED_CELLS = 60;
    private static final int LEAST_CELLS = 12;
    private static final int MAX_NOISE = 9;
    private static final int MAX_LOTS = 100;
    // Far above what any search here takes; it only shows that the search ends.
    private static final int FAR_ABOVE = 1000000;

    private static final int MIN = 0;
    private static final int WIDTH = 1;
    private static final int M = 2;
    private static final int BUDGET = 3;
    private static final int[] SETTINGS_AT_FIRST = {3, 3, 10, 0};
    private static final int[] SETTINGS_LEAST = {1, 1, 1, 0};
    private static final int[] SETTINGS_MOST = {20, 50, 99, 1000};

    private final byte[] tape;
    private final Reader reader;
    private final Rows rows;
    private final Plan[] plans;
    private final int[] given;
    private final int[] settings;
    private final Mender mender;
    private final Figures figures;
    private final Agreement agreement;
    private final Places places;
    private final Guard guard;
    private final Lots lots;
    private Book spare;
    private int taped;
    private int tables;
    private int latest;

    public CountOffice() {
        tape = new byte[TAPE_BYTES];
        spare = new Book();
        reader = new Reader(tape, spare);
        rows = new Rows(new Book());
        // One more than there may be: a TABLE too many is still read for its FAULTS.
        plans = new Plan[MAX_TABLES + 1];
        for (int k = 0; k < plans.length; k++) {
            plans[k] = new Plan();
        }
        given = new int[MAX_FIELDS];
        settings = SETTINGS_AT_FIRST.clone();
        mender = new Mender(rows);
        figures = new Figures(rows);
        agreement = new Agreement(figures);
        places = new Places(figures);
        guard = new Guard(figures);
        lots = new Lots();
    }

    // ---- the book

    public int feed(int a, int b, int c, int d, int e) {
        if (taped > TAPE_BYTES - FED_BYTES) {
            return NONE;
        }
        layOnTape(a);
        layOnTape(b);
        layOnTape(c);
        layOnTape(d);
        layOnTape(e);
        return taped;
    }

    private void layOnTape(int number) {
        for (int shift = 24; shift >= 0 && taped < tape.length; shift -= 8) {
            tape[taped] = (byte) (number >> shift);
            taped++;
        }
    }

    private boolean isOnTape(int n) {
        return n >= 0 && n <= taped;
    }

    public int book(int n) {
        latest = isOnTape(n) ? FINE : NUMBER;
        if (latest != FINE) {
            return NONE;
        }
        taped = 0;
        if (!reader.readBook(n, spare)) {
            latest = FAULTY;
            return NONE;
        }
        Book old = rows.book;
        rows.begin(spare);
        spare = old;
        beginAnew();
        return rows.book.fields;
    }

    private void beginAnew() {
        tables = 0;
        System.arraycopy(SETTINGS_AT_FIRST, 0, settings, 0, SETTINGS_AT_FIRST.length);
        agreement.clear();
        places.clear();
        lots.clear();
    }

    // A BOOK that was read has a FIELD at least: a never needs one told ahead.
    private boolean hasBook() {
        return rows.book.fields > 0;
    }

    public int table(int n) {
        latest = !hasBook() ? ABSENT : isOnTape(n) ? FINE : NUMBER;
        if (latest != FINE || tables < 0 || tables >= plans.length) {
            return NONE;
        }
        taped = 0;
        if (!reader.readTable(n, plans[tables], rows.book)) {
            latest = FAULTY;
            return NONE;
        }
        if (tables >= MAX_TABLES) {
            latest = NO_ROOM;
            return NONE;
        }
        tables++;
        return tables - 1;
    }

    public int fault() {
        return reader.fault;
    }

    public int where() {
        return latest == FAULTY ? reader.place : NONE;
    }

    public int field(int f, int what) {
        if (!rows.book.hasField(f)) {
            return NONE;
        }
        return what == 0 ? rows.book.tops[f] : what == 1 ? rows.book.costs[f] : NONE;
    }

    // ---- rows

    public int row(int a, int b, int c, int d, int e, int f) {
        given[0] = a;
        given[1] = b;
        given[2] = c;
        given[3] = d;
        given[4] = e;
        given[5] = f;
        latest = !hasBook() ? ABSENT : !rows.book.allows(given) ? NUMBER : rows.isFull() ? NO_ROOM : FINE;
        return latest == FINE ? rows.add(given) : NONE;
    }

    public boolean weight(int row, int w) {
        latest = !rows.has(row) ? ABSENT : isWithin(w, 1, MAX_WEIGHT) ? FINE : NUMBER;
        if (latest != FINE || !rows.has(row)) {
            return false;
        }
        rows.weights[row] = w;
        return true;
    }

    public boolean withdraw(int row) {
        latest = !rows.has(row) ? ABSENT : rows.isWithdrawn(row) ? UNFIT : FINE;
        if (latest != FINE || !rows.has(row)) {
            return false;
        }
        rows.withdrawnOn[row] = rows.today;
        return true;
    }

    public int value(int row, int field, int day, int filling) {
        return rows.isDay(day) ? rows.valueOn(row, field, day, filling) : NOT;
    }

    public int of(int row, int what) {
        if (!rows.has(row)) {
            return NONE;
        }
        switch (what) {
            case 0:
                return rows.isThere(row, rows.today) ? 1 : 0;
            case 1:
                return rows.ruleThatHolds(row) == NOT ? 0 : 1;
            case 2:
                return rows.countGaps(row);
            case 3:
                return rows.mendedOn[row];
            case 4:
                return rows.filledOn[row];
            case 5:
                return rows.weights[row];
            case 6:
                return rows.ruleThatHolds(row);
            default:
                return NONE;
        }
    }

    public int mend(int row) {
        latest = !rows.has(row) ? ABSENT : rows.canBeMended(row) ? FINE : UNFIT;
        if (latest != FINE) {
            return NONE;
        }
        int set = mender.mendRow(row);
        if (set == 0) {
            latest = NO_WAY;
            return NONE;
        }
        return set;
    }

    public int giver() {
        return mender.latestGiver;
    }

    public int fill(int row, int lot) {
        latest = !rows.has(row) ? ABSENT : !isWithin(lot, 0, MAX_LOT_OF_FILLING) ? NUMBER
                : rows.canBeFilled(row) ? FINE : UNFIT;
        if (latest != FINE) {
            return NONE;
        }
        int givers = mender.fillRow(row, lot);
        if (givers == 0) {
            latest = NO_WAY;
            return NONE;
        }
        return givers;
    }

    public int pass(int days) {
        latest = !hasBook() ? ABSENT
                : isWithin(days, 1, MAX_PASS) && rows.today + days <= MAX_DAY ? FINE : NUMBER;
        if (latest != FINE) {
            return NONE;
        }
        rows.today += days;
        return rows.today;
    }

    // ---- figures

    private boolean hasTable(int table) {
        return table >= 0 && table < tables && table < plans.length;
    }

    private boolean hasCell(int table, int i, int j) {
        return hasTable(table) && plans[table].hasCell(i, j);
    }

    public long figure(int table, int i, int j, int day, int filling) {
        latest = !hasCell(table, i, j) ? ABSENT
                : rows.isDay(day) && isWithin(filling, 0, FILLINGS - 1) ? FINE : NUMBER;
        if (latest != FINE || !hasTable(table)) {
            return NO_FIGURE;
        }
        return figures.sumOf(plans[table], plans[table].cellAt(i, j), day, filling);
    }

    public long span(int table, int i, int j, boolean most) {
        latest = hasCell(table, i, j) ? FINE : ABSENT;
        if (latest != FINE || !hasTable(table)) {
            return NO_FIGURE;
        }
        int cell = plans[table].cellAt(i, j);
        long end = figures.sumOf(plans[table], cell, rows.today, 0);
        for (int filling = 1; filling < FILLINGS; filling++) {
            long other = figures.sumOf(plans[table], cell, rows.today, filling);
            end = most ? Math.max(end, other) : Math.min(end, other);
        }
        return end;
    }

    public long far(int table, int i, int j, int day, int other) {
        latest = !hasCell(table, i, j) ? ABSENT : rows.isDay(day) && rows.isDay(other) ? FINE : NUMBER;
        if (latest != FINE || !hasTable(table)) {
            return NO_FIGURE;
        }
        int cell = plans[table].cellAt(i, j);
        return figures.sumOf(plans[table], cell, other, 0) - figures.sumOf(plans[table], cell, day, 0);
    }

    public boolean known(int field, int v, int sum) {
        latest = !rows.book.hasValue(field, v) ? ABSENT : !isWithin(sum, 0, MAX_KNOWN) ? NUMBER
                : rows.book.topOf(field) > MAX_AGREED_TOP ? UNFIT : FINE;
        if (latest != FINE) {
            return false;
        }
        agreement.know(field, v, sum);
        return true;
    }

    public long agreed(int table, int i, int j, boolean denominator) {
        latest = !hasCell(table, i, j) ? ABSENT : agreement.field == NONE ? UNFIT : FINE;
        if (latest != FINE || !hasTable(table)) {
            return NO_FIGURE;
        }
        agreement.reckon(plans[table], plans[table].cellAt(i, j));
        return denominator ? agreement.denominator : agreement.numerator;
    }

    public boolean group(int field, int v, int g) {
        latest = !rows.book.hasValue(field, v) ? ABSENT : isWithin(g, 0, MAX_GROUP) ? FINE : NUMBER;
        if (latest != FINE) {
            return false;
        }
        places.join(field, v, g);
        return true;
    }

    public int small(int table, int field, int v, int what) {
        latest = !hasTable(table) || !rows.book.hasValue(field, v) || !isWithin(what, 0, 3) ? ABSENT
                : plans[table].first != NONE ? UNFIT : FINE;
        if (latest != FINE || !hasTable(table)) {
            return NONE;
        }
        places.survey(plans[table], field, v);
        switch (what) {
            case 0:
                return places.joined(settings[M]);
            case 1:
                return places.own();
            case 2:
                return places.like();
            default:
                return places.part(settings[M]);
        }
    }

    // ---- guarded

    public boolean set(int what, int v) {
        latest = !hasBook() || !isWithin(what, MIN, BUDGET) ? ABSENT
                : isWithin(v, SETTINGS_LEAST[what], SETTINGS_MOST[what]) ? FINE : NUMBER;
        if (latest != FINE || !isWithin(what, MIN, BUDGET)) {
            return false;
        }
        settings[what] = v;
        return true;
    }

    private boolean hasGuarded(int table) {
        return hasTable(table) && plans[table].isGuarded();
    }

    public int shy(int table) {
        latest = !hasTable(table) ? ABSENT : hasGuarded(table) ? FINE : UNFIT;
        if (latest != FINE || !hasTable(table)) {
            return NONE;
        }
        guard.open(plans[table]);
        return Long.bitCount(guard.shyCells(settings[MIN]));
    }

    public int edge(int table, int i, int j, long out, boolean high) {
        latest = !hasCell(table, i, j) ? ABSENT : !hasGuarded(table) ? UNFIT
                : troubleOfEdge(plans[table], plans[table].cellAt(i, j), out);
        if (latest != FINE || !hasTable(table)) {
            return NONE;
        }
        guard.open(plans[table]);
        return guard.edgeOf(plans[table].cellAt(i, j), out, high);
    }

    private static int troubleOfEdge(Plan plan, int cell, long out) {
        return !isLeftOut(cell, out) ? UNFIT : plan.hasBits(out) ? FINE : NUMBER;
    }

    public int wide(int table, long out) {
        latest = !hasTable(table) ? ABSENT : !hasGuarded(table) ? UNFIT
                : plans[table].hasBits(out) ? FINE : NUMBER;
        if (latest != FINE || !hasTable(table)) {
            return NONE;
        }
        guard.open(plans[table]);
        return guard.isWide(out, guard.shyCells(settings[MIN]), settings[WIDTH]) ? 1 : 0;
    }

    public int least(int table) {
        latest = !hasTable(table) ? ABSENT
                : hasGuarded(table) && plans[table].cells() <= LEAST_CELLS ? FINE : UNFIT;
        if (latest != FINE || !hasTable(table)) {
            return NO_SET;
        }
        guard.open(plans[table]);
        return guard.leastSet(guard.shyCells(settings[MIN]), settings[WIDTH]);
    }

    public int differing(int a, int b) {
        latest = !hasTable(a) || !hasTable(b) ? ABSENT : plans[a].countsLike(plans[b]) ? FINE : UNFIT;
        if (latest != FINE || !hasTable(a) || !hasTable(b)) {
            return NONE;
        }
        return guard.differingCells(plans[a], plans[b], settings[MIN]);
    }

    public int lot(int v) {
        latest = !hasBook() ? ABSENT : !isWithin(v, -MAX_NOISE, MAX_NOISE) ? NUMBER
                : lots.isFull() ? NO_ROOM : FINE;
        return latest == FINE ? lots.add(v) : NONE;
    }

    public long noise(int table, int i, int j) {
        latest = hasCell(table, i, j) ? FINE : ABSENT;
        if (latest != FINE || !hasTable(table)) {
            return NO_FIGURE;
        }
        Plan plan = plans[table];
        int cell = plan.cellAt(i, j);
        long figure = figures.sumOf(plan, cell, rows.today, 0);
        if (plan.wasTold(cell, figure)) {
            return plan.toldAtLast(cell);
        }
        if (lots.waiting == 0 || settings[BUDGET] == 0) {
            latest = UNFIT;
            return NO_FIGURE;
        }
        settings[BUDGET]--;
        long told = Math.max(0L, figure + lots.take());
        plan.tell(cell, figure, told);
        return told;
    }

    public int led(int table, int i, int j, int k) throws NoSuchElementException {
        int row = hasCell(table, i, j) ? figures.rowIn(plans[table], plans[table].cellAt(i, j), k) : NONE;
        if (row == NONE) {
            throw new NoSuchElementException();
        }
        return row;
    }

    public int count(int what) {
        switch (what) {
            case 0:
                return rows.book.fields;
            case 1:
                return rows.book.rulesTold;
            case 2:
                return rows.total;
            case 3:
                return tables;
            case 4:
                return rows.today;
            case 5:
                return rows.countBroken();
            case 6:
                return rows.countSince(rows.mendedOn);
            case 7:
                return rows.countSince(rows.filledOn);
            case 8:
                return lots.waiting;
            case 9:
                return settings[BUDGET];
            case 10:
                return taped;
            default:
                return NONE;
        }
    }

    public int trouble() {
        return latest;
    }

    private static boolean isWithin(int v, int low, int high) {
        return v >= low && v <= high;
    }

    private static int valueIn(int[] values, int field) {
        return field >= 0 && field < values.length ? values[field] : GAP;
    }

    private static boolean isLeftOut(int cell, long out) {
        return (out >>> cell & 1) != 0;
    }

    /** A TEST: ONES that must all hold. Without a ONE it holds always, as a TABLE without where wants it. */
    private static final class Test {
        final int[] left = new int[MAX_ONES];
        final int[] sign = new int[MAX_ONES];
        // A WHOLE as it is; the FIELD f as -1 - f.
        final int[] right = new int[MAX_ONES];
        int ones;
        int fields;

        void clear() {
            ones = 0;
            fields = 0;
        }

        boolean isFull() {
            return ones >= MAX_ONES;
        }

        void add(int field, int sign, int thing) {
            if (isFull()) {
                return;
            }
            left[ones] = field;
            this.sign[ones] = sign;
            right[ones] = thing;
            ones++;
            fields |= 1 << field | (thing < 0 ? 1 << (-1 - thing) : 0);
        }

        boolean holds(int[] values) {
            for (int k = 0; k < ones && k < MAX_ONES; k++) {
                int a = valueIn(values, left[k]);
                int b = right[k] >= 0 ? right[k] : valueIn(values, -1 - right[k]);
                boolean one = sign[k] == '=' ? a == b : sign[k] == '<' ? a < b : a > b;
                if (!one || a == GAP || b == GAP) {
                    return false;
                }
            }
            return true;
        }
    }

    /** A BOOK: its FIELDS and RULES. Without a FIELD there is no BOOK. */
    private static final class Book {
        final long[] names = new long[MAX_FIELDS];
        final int[] tops = new int[MAX_FIELDS];
        final int[] costs = new int[MAX_FIELDS];
        final Test[] rules = new Test[MAX_RULES];
        int fields;
        int rulesTold;
        int space = 1;

        Book() {
            for (int k = 0; k < rules.length; k++) {
                rules[k] = new Test();
            }
        }

        void clear() {
            fields = 0;
            rulesTold = 0;
            space = 1;
        }

        void addField(long name, int top, int cost) {
            if (fields >= MAX_FIELDS) {
                return;
            }
            names[fields] = name;
            tops[fields] = top;
            costs[fields] = cost;
            space *= top + 1;
            fields++;
        }

        int fieldNamed(long name) {
            for (int f = 0; f < fields && f < MAX_FIELDS; f++) {
                if (names[f] == name) {
                    return f;
                }
            }
            return NONE;
        }

        boolean hasField(int field) {
            return field >= 0 && field < fields && field < MAX_FIELDS;
        }

        int topOf(int field) {
            return hasField(field) ? tops[field] : NONE;
        }

        boolean hasValue(int field, int v) {
            return v >= 0 && v <= topOf(field);
        }

        boolean allows(int[] values) {
            for (int f = 0; f < fields && f < values.length; f++) {
                if (values[f] != GAP && !hasValue(f, values[f])) {
                    return false;
                }
            }
            return true;
        }

        int ruleThatHolds(int[] values) {
            for (int k = 0; k < rulesTold && k < MAX_RULES; k++) {
                if (rules[k].holds(values)) {
                    return k;
                }
            }
            return NOT;
        }

        int allFields() {
            return (1 << fields) - 1;
        }

        int gapsOf(int[] values) {
            int gaps = 0;
            for (int f = 0; f < fields && f < values.length; f++) {
                if (values[f] == GAP) {
                    gaps |= 1 << f;
                }
            }
            return gaps;
        }

        int costOf(int set) {
            int cost = 0;
            for (int f = 0; f < fields && f < MAX_FIELDS; f++) {
                if ((set >> f & 1) != 0) {
                    cost += costs[f];
                }
            }
            return cost;
        }
    }

    /** A TABLE, and what was told of its CELLS with NOISE. */
    private static final class Plan {
        final Test filter = new Test();
        final long[] figureTold = new long[MAX_CELLS];
        final long[] told = new long[MAX_CELLS];
        int summed;
        int first;
        int second;
        int lines;
        int columns;

        void clear() {
            filter.clear();
            Arrays.fill(told, NONE);
            summed = NONE;
            first = NONE;
            second = NONE;
            lines = 1;
            columns = 1;
        }

        void by(int field, int top) {
            first = field;
            lines = top + 1;
        }

        void andBy(int field, int top) {
            second = field;
            columns = top + 1;
        }

        int cells() {
            return lines * columns;
        }

        boolean hasCell(int i, int j) {
            return i >= 0 && i < lines && j >= 0 && j < columns;
        }

        int cellAt(int i, int j) {
            return i * columns + j;
        }

        /** The CELL in whose FIGURE such VALUES are, NONE without one. */
        int cellOf(int[] values) {
            int i = first == NONE ? 0 : valueIn(values, first);
            int j = second == NONE ? 0 : valueIn(values, second);
            if (!hasCell(i, j) || summed != NONE && valueIn(values, summed) == GAP || !filter.holds(values)) {
                return NONE;
            }
            return cellAt(i, j);
        }

        int timesOf(int[] values) {
            return summed == NONE ? 1 : valueIn(values, summed);
        }

        boolean isGuarded() {
            return summed == NONE && second != NONE && cells() <= GUARDED_CELLS;
        }

        boolean hasBits(long out) {
            return cells() <= GUARDED_CELLS && out >>> cells() == 0;
        }

        boolean countsLike(Plan other) {
            return summed == NONE && other.summed == NONE && first == other.first && second == other.second;
        }

        boolean wasTold(int cell, long figure) {
            return cell >= 0 && cell < MAX_CELLS && told[cell] != NONE && figureTold[cell] == figure;
        }

        long toldAtLast(int cell) {
            return cell >= 0 && cell < MAX_CELLS ? told[cell] : NONE;
        }

        void tell(int cell, long figure, long telling) {
            if (cell >= 0 && cell < MAX_CELLS) {
                figureTold[cell] = figure;
                told[cell] = telling;
            }
        }
    }

    /** Reads THE TEXT of a BOOK or a TABLE, TOKEN by TOKEN, up to its first FAULT. */
    private static final class Reader {
        private static final int END = 0;
        private static final int WORD = 1;
        private static final int WHOLE = 2;
        private static final int SIGN = 3;
        private static final int NO_TOKEN = 4;
        private static final int MAX_LETTERS = 8;
        private static final int MAX_DIGITS = 4;

        // A WORD as a number: its letters, a byte each.
        private static final long FIELD = 0x6669656c64L;
        private static final long NEVER = 0x6e65766572L;
        private static final long AND = 0x616e64L;
        private static final long COUNT = 0x636f756e74L;
        private static final long SUM = 0x73756dL;
        private static final long BY = 0x6279L;
        private static final long WHERE = 0x7768657265L;
        private static final long TOP = 0x746f70L;
        private static final long COST = 0x636f7374L;

        final byte[] text;
        int fault;
        int place;
        private int end;
        private int behind;
        private int kind;
        private int number;
        private long word;
        private Book book;

        Reader(byte[] text, Book book) {
            this.text = text;
            this.book = book;
        }

        boolean readBook(int n, Book into) {
            into.clear();
            begin(n, into);
            for (int line = 0; line <= TAPE_BYTES && readLine(); line++) {
                if (kind == END) {
                    return true;
                }
                if (!isSign(';')) {
                    return fail(FORM);
                }
                step();
            }
            return false;
        }

        boolean readTable(int n, Plan into, Book of) {
            into.clear();
            begin(n, of);
            if (!readWhat(into) || !readBy(into)) {
                return false;
            }
            if (isWord(WHERE)) {
                step();
                if (!readTest(into.filter)) {
                    return false;
                }
            }
            return kind == END || fail(FORM);
        }

        private void begin(int n, Book of) {
            book = of;
            fault = FINE;
            end = Math.min(n, text.length);
            behind = 0;
            step();
        }

        private boolean fail(int number) {
            fault = number;
            return false;
        }

        private boolean readLine() {
            if (isWord(FIELD)) {
                step();
                return readField();
            }
            if (!isWord(NEVER)) {
                return fail(FORM);
            }
            if (book.rulesTold < 0 || book.rulesTold >= MAX_RULES) {
                return fail(MANY);
            }
            Test rule = book.rules[book.rulesTold];
            rule.clear();
            step();
            if (!readTest(rule)) {
                return false;
            }
            book.rulesTold++;
            return true;
        }

        private boolean readField() {
            if (!isName()) {
                return fail(FORM);
            }
            if (book.fieldNamed(word) != NONE) {
                return fail(AGAIN);
            }
            if (book.fields >= MAX_FIELDS) {
                return fail(MANY);
            }
            long name = word;
            step();
            if (!readDigitBehind(TOP)) {
                return false;
            }
            int top = number;
            if (book.space * (top + 1) > MAX_SPACE) {
                return fail(MANY);
            }
            step();
            if (!readDigitBehind(COST)) {
                return false;
            }
            book.addField(name, top, number);
            step();
            return true;
        }

        private boolean readDigitBehind(long title) {
            if (!isWord(title)) {
                return fail(FORM);
            }
            step();
            if (kind != WHOLE) {
                return fail(FORM);
            }
            return isWithin(number, 1, 9) || fail(BOUNDS);
        }

        private boolean readTest(Test into) {
            for (int one = 0; one <= MAX_ONES && readOne(into); one++) {
                if (!isWord(AND)) {
                    return true;
                }
                step();
            }
            return false;
        }

        private boolean readOne(Test into) {
            int left = knownField();
            if (left == NONE) {
                return false;
            }
            if (into.isFull()) {
                return fail(MANY);
            }
            step();
            if (!isSign('=') && !isSign('<') && !isSign('>')) {
                return fail(FORM);
            }
            int sign = number;
            step();
            int thing = number;
            if (kind != WHOLE) {
                int field = knownField();
                if (field == NONE) {
                    return false;
                }
                thing = -1 - field;
            } else if (thing > MAX_THING) {
                return fail(BOUNDS);
            }
            into.add(left, sign, thing);
            step();
            return true;
        }

        private int knownField() {
            if (!isName()) {
                fail(FORM);
                return NONE;
            }
            int field = book.fieldNamed(word);
            if (field == NONE) {
                fail(UNTOLD);
            }
            return field;
        }

        private boolean readWhat(Plan into) {
            if (isWord(COUNT)) {
                step();
                return true;
            }
            if (!isWord(SUM)) {
                return fail(FORM);
            }
            step();
            into.summed = knownField();
            if (into.summed == NONE) {
                return false;
            }
            step();
            return true;
        }

        private boolean readBy(Plan into) {
            if (!isWord(BY)) {
                return true;
            }
            step();
            int field = knownField();
            if (field == NONE) {
                return false;
            }
            into.by(field, book.topOf(field));
            step();
            if (!isSign(',')) {
                return true;
            }
            step();
            int second = knownField();
            if (second == NONE) {
                return false;
            }
            if (second == field) {
                return fail(AGAIN);
            }
            into.andBy(second, book.topOf(second));
            step();
            return true;
        }

        private boolean isSign(int sign) {
            return kind == SIGN && number == sign;
        }

        private boolean isWord(long title) {
            return kind == WORD && word == title;
        }

        private boolean isName() {
            return kind == WORD && word != FIELD && word != NEVER && word != AND && word != COUNT && word != SUM
                    && word != BY && word != WHERE;
        }

        /** Goes on to the next TOKEN. */
        private void step() {
            place = behind;
            for (int k = behind; k < end && byteAt(k) == ' '; k++) {
                place = k + 1;
            }
            behind = place;
            number = 0;
            word = 0;
            for (int k = place; k < end && isLetter(byteAt(k)); k++) {
                word = word << 8 | byteAt(k);
                behind = k + 1;
            }
            int letters = behind - place;
            for (int k = place; k < end && isDigit(byteAt(k)); k++) {
                number = number * 10 + byteAt(k) - '0';
                behind = k + 1;
            }
            int digits = letters > 0 ? 0 : behind - place;
            if (letters > 0) {
                kind = letters <= MAX_LETTERS ? WORD : NO_TOKEN;
            } else if (digits > 0) {
                kind = digits <= MAX_DIGITS ? WHOLE : NO_TOKEN;
            } else {
                takeSign(byteAt(place));
            }
        }

        private void takeSign(int sign) {
            if (place >= end) {
                kind = END;
                return;
            }
            behind = place + 1;
            number = sign;
            kind = number == ';' || number == ',' || number == '=' || number == '<' || number == '>' ? SIGN : NO_TOKEN;
        }

        private int byteAt(int k) {
            return k >= 0 && k < text.length ? text[k] : 0;
        }

        private static boolean isLetter(int sign) {
            return sign >= 'a' && sign <= 'z';
        }

        private static boolean isDigit(int sign) {
            return sign >= '0' && sign <= '9';
        }
    }

    /** The ROWS of a BOOK, and what they were on each DAY. */
    private static final class Rows {
        private static final int PLACES = MAX_ROWS * MAX_FIELDS;

        final int[] bornOn = new int[MAX_ROWS];
        final int[] withdrawnOn = new int[MAX_ROWS];
        final int[] mendedOn = new int[MAX_ROWS];
        final int[] filledOn = new int[MAX_ROWS];
        final int[] weights = new int[MAX_ROWS];
        Book book;
        int total;
        int today;
        private final int[] came = new int[PLACES];
        private final int[] mended = new int[PLACES];
        private final int[] filled = new int[FILLINGS * PLACES];
        private final int[] now = new int[MAX_FIELDS];

        Rows(Book book) {
            this.book = book;
        }

        void begin(Book next) {
            book = next;
            total = 0;
            today = 0;
        }

        boolean has(int row) {
            return row >= 0 && row < total && row < MAX_ROWS;
        }

        boolean isFull() {
            return total >= MAX_ROWS;
        }

        boolean isDay(int day) {
            return day >= 0 && day <= today;
        }

        int add(int[] values) {
            if (total < 0 || total >= MAX_ROWS) {
                return NONE;
            }
            bornOn[total] = today;
            withdrawnOn[total] = NOT;
            mendedOn[total] = NOT;
            filledOn[total] = NOT;
            weights[total] = 1;
            keep(values, came, total * MAX_FIELDS);
            total++;
            return total - 1;
        }

        private static void keep(int[] values, int[] into, int from) {
            if (from >= 0 && from + MAX_FIELDS <= into.length && MAX_FIELDS <= values.length) {
                System.arraycopy(values, 0, into, from, MAX_FIELDS);
            }
        }

        boolean isWithdrawn(int row) {
            return has(row) && withdrawnOn[row] != NOT;
        }

        boolean isThere(int row, int day) {
            return has(row) && day >= bornOn[row] && !isSince(withdrawnOn[row], day);
        }

        private static boolean isSince(int from, int day) {
            return from != NOT && day >= from;
        }

        /** NOT for none such, and ahead of the ROW's DAY. */
        int valueOn(int row, int field, int day, int filling) {
            if (!has(row) || !book.hasField(field) || !isWithin(filling, 0, FILLINGS - 1) || day < bornOn[row]) {
                return NOT;
            }
            int at = row * MAX_FIELDS + field;
            int v = isSince(mendedOn[row], day) ? mended[at] : came[at];
            return v == GAP && isSince(filledOn[row], day) ? filled[filling * PLACES + at] : v;
        }

        void load(int row, int day, int filling, int[] into) {
            for (int f = 0; f < into.length; f++) {
                into[f] = valueOn(row, f, day, filling);
            }
        }

        private void loadNow(int row) {
            load(row, today, 0, now);
        }

        int ruleThatHolds(int row) {
            loadNow(row);
            return book.ruleThatHolds(now);
        }

        int countGaps(int row) {
            loadNow(row);
            return Integer.bitCount(book.gapsOf(now));
        }

        boolean canBeMended(int row) {
            return has(row) && ruleThatHolds(row) != NOT && withdrawnOn[row] == NOT && mendedOn[row] == NOT;
        }

        boolean canBeFilled(int row) {
            return has(row) && countGaps(row) > 0 && ruleThatHolds(row) == NOT && withdrawnOn[row] == NOT
                    && filledOn[row] == NOT;
        }

        void mendWith(int row, int[] values) {
            if (has(row)) {
                keep(values, mended, row * MAX_FIELDS);
                mendedOn[row] = today;
            }
        }

        void fillWith(int row, int filling, int[] values) {
            if (has(row)) {
                keep(values, filled, filling * PLACES + row * MAX_FIELDS);
            }
        }

        void endFilling(int row) {
            if (has(row)) {
                filledOn[row] = today;
            }
        }

        int countBroken() {
            int broken = 0;
            for (int row = 0; row < total; row++) {
                if (isThere(row, today) && ruleThatHolds(row) != NOT) {
                    broken++;
                }
            }
            return broken;
        }

        int countSince(int[] days) {
            int since = 0;
            for (int row = 0; row < total && row < days.length; row++) {
                if (days[row] != NOT) {
                    since++;
                }
            }
            return since;
        }
    }

    /** Mends and fills ROWS: which FIELDS must change, and whose VALUES they take. */
    private static final class Mender {
        final Rows rows;
        int latestGiver = NONE;
        private final int[] own = new int[MAX_FIELDS];
        private final int[] theirs = new int[MAX_FIELDS];
        private final int[] trial = new int[MAX_FIELDS];
        private final int[] members = new int[MAX_FIELDS];
        private final int[] ripeAt = new int[MAX_RULES];
        private final int[] givers = new int[MAX_ROWS];

        Mender(Rows rows) {
            this.rows = rows;
        }

        /** The FIELDS as bits, none if there is no way. */
        int mendRow(int row) {
            rows.load(row, rows.today, 0, own);
            int set = cheapestSet();
            if (set == 0) {
                return 0;
            }
            latestGiver = gatherGivers(row, set, set) > 0 ? givers[0] : NOT;
            if (latestGiver == NOT) {
                findValues(set);
            } else {
                takeFrom(latestGiver, set);
            }
            rows.mendWith(row, trial);
            return set;
        }

        /** How many GIVERS there are, none if there is no way. */
        int fillRow(int row, int lot) {
            rows.load(row, rows.today, 0, own);
            int gaps = rows.book.gapsOf(own);
            int found = gatherGivers(row, gaps, rows.book.allFields());
            if (found <= 0) {
                return 0;
            }
            for (int filling = 0; filling < FILLINGS; filling++) {
                int turn = (lot + filling) % found;
                if (turn >= 0 && turn < givers.length) {
                    takeFrom(givers[turn], gaps);
                }
                rows.fillWith(row, filling, trial);
            }
            rows.endFilling(row);
            return found;
        }

        // A FIELD with a GAP is in no cheapest set: left a GAP, it lets no ONE hold, and costs nothing.
        private int cheapestSet() {
            int free = rows.book.allFields() & ~rows.book.gapsOf(own);
            // What all free FIELDS together can't mend, fewer can't either.
            if (free == 0 || !findValues(free)) {
                return 0;
            }
            int best = free;
            for (int set = 1; set < free && set < 1 << MAX_FIELDS; set++) {
                if ((set & ~free) == 0 && isBetter(set, best) && findValues(set)) {
                    best = set;
                }
            }
            return best;
        }

        private boolean isBetter(int set, int than) {
            int cost = rows.book.costOf(set) - rows.book.costOf(than);
            if (cost != 0) {
                return cost < 0;
            }
            int size = Integer.bitCount(set) - Integer.bitCount(than);
            if (size != 0) {
                return size < 0;
            }
            int apart = set ^ than;
            return (set & apart & -apart) != 0;
        }

        /** Puts the least VALUES of a set's FIELDS that let no TEST hold into the trial; whether there are any. */
        private boolean findValues(int set) {
            int size = prepareTrial(set);
            if (holdsRipe(NONE)) {
                return false;
            }
            int depth = 0;
            for (int turn = 0; turn < FAR_ABOVE && depth >= 0 && depth < size && depth < MAX_FIELDS; turn++) {
                int field = members[depth];
                if (!raise(field)) {
                    depth--;
                } else if (!holdsRipe(depth)) {
                    depth++;
                    if (depth < size) {
                        startAt(depth);
                    }
                }
            }
            return depth == size;
        }

        /** Lists the set's FIELDS, and for each RULE the last of them that its TEST asks for. */
        private int prepareTrial(int set) {
            System.arraycopy(own, 0, trial, 0, MAX_FIELDS);
            Arrays.fill(ripeAt, NONE);
            int size = 0;
            for (int f = 0; f < MAX_FIELDS; f++) {
                if ((set >> f & 1) != 0 && size < members.length) {
                    members[size] = f;
                    trial[f] = GAP;
                    for (int k = 0; k < MAX_RULES; k++) {
                        if ((rows.book.rules[k].fields >> f & 1) != 0) {
                            ripeAt[k] = size;
                        }
                    }
                    size++;
                }
            }
            return size;
        }

        private boolean holdsRipe(int depth) {
            for (int k = 0; k < rows.book.rulesTold && k < MAX_RULES; k++) {
                if (ripeAt[k] == depth && rows.book.rules[k].holds(trial)) {
                    return true;
                }
            }
            return false;
        }

        private void startAt(int depth) {
            if (depth >= 0 && depth < members.length) {
                int field = members[depth];
                if (field >= 0 && field < trial.length) {
                    trial[field] = GAP;
                }
            }
        }

        private boolean raise(int field) {
            if (field < 0 || field >= trial.length || trial[field] >= rows.book.topOf(field)) {
                return false;
            }
            trial[field]++;
            return true;
        }

        /** Gathers, by numbers, the GIVERS of a set that are like the ROW in most other FIELDS: how many. */
        private int gatherGivers(int row, int set, int withoutGaps) {
            int found = 0;
            int fewest = MAX_FIELDS + 1;
            for (int other = 0; other < rows.total && other < givers.length; other++) {
                if (other == row || !canGive(other, set, withoutGaps)) {
                    continue;
                }
                int unlike = countUnlike(~set);
                if (unlike < fewest) {
                    fewest = unlike;
                    found = 0;
                }
                if (unlike == fewest && found < givers.length) {
                    givers[found] = other;
                    found++;
                }
            }
            return found;
        }

        private boolean canGive(int other, int set, int withoutGaps) {
            if (!rows.isThere(other, rows.today)) {
                return false;
            }
            rows.load(other, rows.today, 0, theirs);
            putTheirs(set);
            return (rows.book.gapsOf(theirs) & withoutGaps) == 0 && rows.book.ruleThatHolds(theirs) == NOT
                    && rows.book.ruleThatHolds(trial) == NOT;
        }

        private void takeFrom(int other, int set) {
            rows.load(other, rows.today, 0, theirs);
            putTheirs(set);
        }

        /** Makes the trial the ROW's own VALUES with the other one's in a set. */
        private void putTheirs(int set) {
            for (int f = 0; f < MAX_FIELDS; f++) {
                trial[f] = (set >> f & 1) != 0 ? theirs[f] : own[f];
            }
        }

        private int countUnlike(int set) {
            int unlike = 0;
            for (int f = 0; f < rows.book.fields && f < MAX_FIELDS; f++) {
                if ((set >> f & 1) != 0 && own[f] != theirs[f]) {
                    unlike++;
                }
            }
            return unlike;
        }
    }

    /** FIGURES of TABLES over the ROWS. */
    private static final class Figures {
        final Rows rows;
        // Those of the ROW looked at last.
        final int[] values = new int[MAX_FIELDS];

        Figures(Rows rows) {
            this.rows = rows;
        }

        /** Whether a ROW is THERE and not BROKEN; then its values are here. */
        boolean looksAt(int row, int day, int filling) {
            if (!rows.isThere(row, day)) {
                return false;
            }
            rows.load(row, day, filling, values);
            return rows.book.ruleThatHolds(values) == NOT;
        }

        long sumOf(Plan plan, int cell, int day, int filling) {
            long sum = 0;
            for (int row = 0; row < rows.total && row < MAX_ROWS; row++) {
                if (looksAt(row, day, filling) && plan.cellOf(values) == cell) {
                    sum += (long) rows.weights[row] * plan.timesOf(values);
                }
            }
            return sum;
        }

        /** Counts the ROWS of each CELL as of TODAY. */
        void countRows(Plan plan, int[] into) {
            Arrays.fill(into, 0);
            for (int row = 0; row < rows.total; row++) {
                if (looksAt(row, rows.today, 0)) {
                    int cell = plan.cellOf(values);
                    if (cell >= 0 && cell < into.length) {
                        into[cell]++;
                    }
                }
            }
        }

        int rowIn(Plan plan, int cell, int k) {
            int met = 0;
            for (int row = 0; row < rows.total; row++) {
                if (looksAt(row, rows.today, 0) && plan.cellOf(values) == cell) {
                    if (met == k) {
                        return row;
                    }
                    met++;
                }
            }
            return NONE;
        }
    }

    /** WEIGHTS made to agree with known sums, in exact fractions. */
    private static final class Agreement {
        final Figures figures;
        int field = NONE;
        long numerator;
        long denominator;
        private final int[] known = new int[MAX_AGREED_TOP + 1];
        private final long[] all = new long[MAX_AGREED_TOP + 1];
        private final long[] ours = new long[MAX_AGREED_TOP + 1];

        Agreement(Figures figures) {
            this.figures = figures;
        }

        void clear() {
            field = NONE;
        }

        void know(int ofField, int v, int sum) {
            if (ofField != field) {
                Arrays.fill(known, 0);
            }
            field = ofField;
            if (v >= 0 && v < known.length) {
                known[v] = sum;
            }
        }

        void reckon(Plan plan, int cell) {
            sumWeights(plan, cell);
            numerator = 0;
            denominator = 1;
            for (int v = 0; v < known.length; v++) {
                if (all[v] > 0) {
                    add(ours[v] * known[v], all[v]);
                }
            }
        }

        private void sumWeights(Plan plan, int cell) {
            Arrays.fill(all, 0);
            Arrays.fill(ours, 0);
            Rows rows = figures.rows;
            for (int row = 0; row < rows.total && row < MAX_ROWS; row++) {
                int v = figures.looksAt(row, rows.today, 0) ? valueIn(figures.values, field) : GAP;
                if (v >= 0 && v < all.length) {
                    all[v] += rows.weights[row];
                    if (plan.cellOf(figures.values) == cell) {
                        ours[v] += (long) rows.weights[row] * plan.timesOf(figures.values);
                    }
                }
            }
        }

        private void add(long part, long by) {
            long top = numerator * by + part * denominator;
            long bottom = denominator * by;
            long common = commonDivisor(top, bottom);
            if (common > 0) {
                numerator = top / common;
                denominator = bottom / common;
            }
        }

        private static long commonDivisor(long a, long b) {
            for (int turn = 0; turn < FAR_ABOVE && b != 0; turn++) {
                long rest = a % b;
                a = b;
                b = rest;
            }
            return a;
        }
    }

    /** Small places joined with like ones. */
    private static final class Places {
        private static final int WHOLE_OF_IT = 1000;

        final Figures figures;
        private final int[] groups = new int[MAX_FIELDS * MAX_VALUES];
        private int ownRows;
        private int ownHolding;
        private int likeRows;
        private int likeHolding;

        Places(Figures figures) {
            this.figures = figures;
        }

        void clear() {
            Arrays.fill(groups, 0);
        }

        void join(int field, int v, int group) {
            int at = field * MAX_VALUES + v;
            if (at >= 0 && at < groups.length) {
                groups[at] = group;
            }
        }

        private int groupOf(int field, int v) {
            int at = field * MAX_VALUES + v;
            return at >= 0 && at < groups.length ? groups[at] : NONE;
        }

        void survey(Plan plan, int field, int v) {
            ownRows = 0;
            ownHolding = 0;
            likeRows = 0;
            likeHolding = 0;
            Rows rows = figures.rows;
            for (int row = 0; row < rows.total; row++) {
                int other = figures.looksAt(row, rows.today, 0) ? valueIn(figures.values, field) : GAP;
                if (other == GAP) {
                    continue;
                }
                int holding = plan.filter.holds(figures.values) ? 1 : 0;
                if (other == v) {
                    ownRows++;
                    ownHolding += holding;
                } else if (groupOf(field, other) == groupOf(field, v)) {
                    likeRows++;
                    likeHolding += holding;
                }
            }
        }

        private static int thousandths(int some, int all) {
            return all > 0 ? some * WHOLE_OF_IT / all : 0;
        }

        int own() {
            return thousandths(ownHolding, ownRows);
        }

        int like() {
            return thousandths(likeHolding, likeRows);
        }

        int part(int m) {
            return thousandths(ownRows, ownRows + m);
        }

        int joined(int m) {
            return (own() * part(m) + like() * (WHOLE_OF_IT - part(m))) / WHOLE_OF_IT;
        }
    }

    /** What the sums of a GUARDED TABLE let be told of CELLS LEFT OUT. */
    private static final class Guard {
        private static final int NODES = 2 * MAX_VALUES;

        final Figures figures;
        private final int[] counts = new int[MAX_CELLS];
        private final int[] others = new int[MAX_CELLS];
        private final int[] moved = new int[MAX_CELLS];
        private final int[] from = new int[NODES];
        private final int[] queue = new int[NODES];
        private int lines = 1;
        private int columns = 1;

        Guard(Figures figures) {
            this.figures = figures;
        }

        void open(Plan plan) {
            lines = plan.lines;
            columns = plan.columns;
            figures.countRows(plan, counts);
        }

        int differingCells(Plan a, Plan b, int min) {
            figures.countRows(a, counts);
            figures.countRows(b, others);
            int differing = 0;
            for (int cell = 0; cell < MAX_CELLS; cell++) {
                if (isWithin(Math.abs(counts[cell] - others[cell]), 1, min - 1)) {
                    differing++;
                }
            }
            return differing;
        }

        long shyCells(int min) {
            long shy = 0;
            for (int cell = 0; cell < lines * columns && cell < GUARDED_CELLS; cell++) {
                if (isWithin(counts[cell], 1, min - 1)) {
                    shy |= 1L << cell;
                }
            }
            return shy;
        }

        boolean isWide(long out, long shy, int width) {
            if ((shy & ~out) != 0) {
                return false;
            }
            for (int cell = 0; cell < GUARDED_CELLS; cell++) {
                if (isLeftOut(cell, shy) && edgeOf(cell, out, true) - edgeOf(cell, out, false) < width) {
                    return false;
                }
            }
            return true;
        }

        /** LEAST as bits, NOT without one. */
        int leastSet(long shy, int width) {
            int cells = Math.min(lines * columns, LEAST_CELLS);
            int best = (1 << cells) - 1;
            // The more is left out, the wider all is: what the whole TABLE can't hide, nothing can.
            if (!isWide(best, shy, width)) {
                return NOT;
            }
            for (int set = 0; set < 1 << LEAST_CELLS && set < 1 << cells; set++) {
                if ((shy & ~set) == 0 && isLess(set, best) && isWide(set, shy, width)) {
                    best = set;
                }
            }
            return best;
        }

        private boolean isLess(int set, int than) {
            int fewer = rowsIn(set) - rowsIn(than);
            if (fewer != 0) {
                return fewer < 0;
            }
            int size = Integer.bitCount(set) - Integer.bitCount(than);
            return size < 0 || size == 0 && set < than;
        }

        private int rowsIn(int set) {
            int sum = 0;
            for (int cell = 0; cell < LEAST_CELLS; cell++) {
                if (isLeftOut(cell, set)) {
                    sum += counts[cell];
                }
            }
            return sum;
        }

        /** HIGH or LOW: moves ROWS round circles of CELLS left out, as long as the CELL gains (or loses) by it. */
        int edgeOf(int cell, long out, boolean high) {
            if (cell < 0 || cell >= MAX_CELLS || columns < 1) {
                return NONE;
            }
            int start = cell / columns;
            int goal = lines + cell % columns;
            System.arraycopy(counts, 0, moved, 0, MAX_CELLS);
            for (int turn = 0; turn < FAR_ABOVE && (high || moved[cell] > 0); turn++) {
                if (!findCircle(start, goal, out, high)) {
                    break;
                }
                moveRound(start, goal, high);
            }
            return moved[cell];
        }

        // Lines and columns are nodes, CELLS left out the ways between them: with each line and column that a
        // circle goes through, one of its CELLS gains what another one loses.
        private boolean findCircle(int start, int goal, long out, boolean high) {
            if (!isNode(start) || !isNode(goal)) {
                return false;
            }
            int cell = cellBetween(start, goal);
            Arrays.fill(from, NONE);
            from[start] = start;
            queue[0] = start;
            int reached = 1;
            for (int head = 0; head < reached && head < NODES && from[goal] == NONE; head++) {
                int node = queue[head];
                int end = node < lines ? lines + columns : lines;
                for (int next = node < lines ? lines : 0; next < end && next < NODES; next++) {
                    int way = cellBetween(node, next);
                    if (from[next] == NONE && way != cell && isLeftOut(way, out)
                            && (!loses(node, high) || countAt(way) > 0) && reached < NODES) {
                        from[next] = node;
                        queue[reached] = next;
                        reached++;
                    }
                }
            }
            return from[goal] != NONE;
        }

        private boolean isNode(int node) {
            return node >= 0 && node < lines + columns && node < NODES;
        }

        private int cellBetween(int node, int next) {
            return node < lines ? node * columns + next - lines : next * columns + node - lines;
        }

        // If the CELL gains, the next one of its line loses, the next one of that column gains, and so on.
        private boolean loses(int node, boolean high) {
            return node < lines == high;
        }

        private int countAt(int way) {
            return way >= 0 && way < MAX_CELLS ? moved[way] : 0;
        }

        private void moveRound(int start, int goal, boolean high) {
            int cell = cellBetween(start, goal);
            int amount = high ? MAX_ROWS : countAt(cell);
            for (int k = 0, node = goal; k < NODES && node != start && isNode(node); k++) {
                int before = from[node];
                if (loses(before, high)) {
                    amount = Math.min(amount, countAt(cellBetween(before, node)));
                }
                node = before;
            }
            for (int k = 0, node = goal; k < NODES && node != start && isNode(node); k++) {
                int before = from[node];
                change(cellBetween(before, node), loses(before, high) ? -amount : amount);
                node = before;
            }
            change(cell, high ? amount : -amount);
        }

        private void change(int way, int amount) {
            if (way >= 0 && way < MAX_CELLS) {
                moved[way] += amount;
            }
        }
    }

    /** The line in which LOTS wait. */
    private static final class Lots {
        int waiting;
        private final int[] line = new int[MAX_LOTS];
        private int head;

        void clear() {
            head = 0;
            waiting = 0;
        }

        boolean isFull() {
            return waiting >= MAX_LOTS;
        }

        int add(int v) {
            int at = (head + waiting) % MAX_LOTS;
            if (!isFull() && at >= 0) {
                line[at] = v;
                waiting++;
            }
            return waiting;
        }

        int take() {
            if (waiting <= 0 || head < 0 || head >= MAX_LOTS) {
                return 0;
            }
            int v = line[head];
            head = (head + 1) % MAX_LOTS;
            waiting--;
            return v;
        }
    }
}
