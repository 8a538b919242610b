import java.util.NoSuchElementException;

/** Term III and promises 17 to 23, sentence by sentence: FIGURES, SPAN, FAR, AGREEING and SMALL. */
public final class FigureBoundTests {
    private static final int LOWEST = Integer.MIN_VALUE;
    private static final int HIGHEST = Integer.MAX_VALUE;
    private static final long NO = Checks.NO_FIGURE;
    private static final Checks CHECKS = new Checks("FigureBoundTests");
    private static final Twins BUSY = new Twins(CHECKS, Lands::busy);
    private static final Twins UNTOLD = new Twins(CHECKS, Lands::withoutBook);
    private static final Twins BARE = new Twins(CHECKS, Lands::bare);

    public static void main(String[] args) {
        cells();
        noTables();
        figureDays();
        figureFillings();
        rowsNotBroken();
        rowsThatHold();
        rowsOfTheCell();
        sumWithoutGaps();
        sumOfWeights();
        asOfADay();
        span();
        spanOfEveryFilling();
        far();
        farIsRefused();
        knownSums();
        knownTops();
        knownIsRefused();
        knownOfAnotherField();
        agreedWeights();
        agreedNone();
        lowestTerms();
        agreedIsRefused();
        groups();
        groupIsRefused();
        groupAtFirst();
        groupsOfFields();
        own();
        ownRows();
        like();
        part();
        joined();
        smallIsRefused();
        CHECKS.close();
    }

    private static final String[] TABLES = {"count", "sum b by a", "count by a, c", "sum a by c, a"};
    private static final int[] LINES = {1, 3, 3, 2};
    private static final int[] COLUMNS = {1, 1, 2, 3};

    private static Desk fourTables() {
        Desk desk = Lands.bare();
        for (String table : TABLES) {
            desk.table(table);
        }
        desk.row(0, 0, 0);
        desk.x.known(0, 0, 10);
        desk.x.set(3, 1000);
        return desk;
    }

    private static void cells() {
        CHECKS.sentence("Term III", "A CELL: a VALUE of the first by (0 without) and of the second (0 without)");
        int[] values = {LOWEST, -1, 0, 1, 2, 3, HIGHEST};
        for (int t = 0; t < TABLES.length; t++) {
            for (int i : values) {
                for (int j : values) {
                    cell(t, i, j, i >= 0 && i < LINES[t] && j >= 0 && j < COLUMNS[t]);
                }
            }
        }
    }

    private static void cell(int t, int i, int j, boolean there) {
        CountOffice x = fourTables().x;
        String of = "(" + t + ", " + i + ", " + j + ", ..)";
        int trouble = there ? 0 : 1;
        x.lot(0);
        CHECKS.due("figure" + of, x.figure(t, i, j, 0, 0) == NO, !there);
        CHECKS.due("trouble()", x.trouble(), trouble);
        CHECKS.due("span" + of, x.span(t, i, j, true) == NO, !there);
        CHECKS.due("trouble()", x.trouble(), trouble);
        CHECKS.due("far" + of, x.far(t, i, j, 0, 0) == NO, !there);
        CHECKS.due("trouble()", x.trouble(), trouble);
        CHECKS.due("agreed" + of, x.agreed(t, i, j, true) == NO, !there);
        CHECKS.due("trouble()", x.trouble(), trouble);
        CHECKS.due("noise" + of, x.noise(t, i, j) == NO, !there);
        CHECKS.due("trouble()", x.trouble(), trouble);
        CHECKS.due("the LOT behind noise" + of, x.count(8), there ? 0 : 1);
        boolean led = there && i == 0 && j == 0;
        boolean thrown = false;
        try {
            x.led(t, i, j, 0);
        } catch (NoSuchElementException none) {
            thrown = true;
        }
        CHECKS.due("led" + of + " throws", thrown, !led);
    }

    private static void noTables() {
        CHECKS.sentence("Promises 17 to 21", "-2^63: 1 (TABLE, a VALUE that there isn't)");
        for (int t : new int[] {-1, 4, 8, LOWEST, HIGHEST}) {
            BUSY.noFigure("figure(" + t + ", 0, 0, 0, 0)", x -> x.figure(t, 0, 0, 0, 0), 1);
            BUSY.noFigure("span(" + t + ", 0, 0, true)", x -> x.span(t, 0, 0, true), 1);
            BUSY.noFigure("far(" + t + ", 0, 0, 0, 0)", x -> x.far(t, 0, 0, 0, 0), 1);
            BUSY.noFigure("agreed(" + t + ", 0, 0, true)", x -> x.agreed(t, 0, 0, true), 1);
        }
        BUSY.noFigure("figure(0, 3, 0, 0, 0)", x -> x.figure(0, 3, 0, 0, 0), 1);
        BUSY.noFigure("figure(0, 0, 3, 0, 0)", x -> x.figure(0, 0, 3, 0, 0), 1);
        BUSY.noFigure("span(0, 3, 0, false)", x -> x.span(0, 3, 0, false), 1);
        BUSY.noFigure("span(2, 0, 1, false)", x -> x.span(2, 0, 1, false), 1);
        BUSY.noFigure("far(2, 1, 0, 0, 0)", x -> x.far(2, 1, 0, 0, 0), 1);
        BUSY.noFigure("agreed(0, -1, 0, false)", x -> x.agreed(0, -1, 0, false), 1);
        BARE.noFigure("figure(0, 0, 0, 0, 0) without a TABLE", x -> x.figure(0, 0, 0, 0, 0), 1);
        BARE.noFigure("span(0, 0, 0, true) without a TABLE", x -> x.span(0, 0, 0, true), 1);
        UNTOLD.noFigure("figure(0, 0, 0, 0, 0) without a BOOK", x -> x.figure(0, 0, 0, 0, 0), 1);
        UNTOLD.noFigure("span(0, 0, 0, true) without a BOOK", x -> x.span(0, 0, 0, true), 1);
        UNTOLD.noFigure("far(0, 0, 0, 0, 0) without a BOOK", x -> x.far(0, 0, 0, 0, 0), 1);
        UNTOLD.noFigure("agreed(0, 0, 0, true) without a BOOK", x -> x.agreed(0, 0, 0, true), 1);
        CHECKS.dueWith(Lands.busy().x, "the last TABLE, the last CELL", Lands.busy().x.figure(3, 2, 2, 5, 4), 0, 0);
    }

    private static void figureDays() {
        CHECKS.sentence("Term III and promise 17", "A FIGURE as of a DAY (0 .. TODAY). -2^63: 2 (DAY)");
        Desk desk = Lands.busy();
        long[] due = {4, 4, 4, 4, 4, 4};
        for (int day = 0; day < due.length; day++) {
            CHECKS.dueWith(desk.x, "figure(0, 0, 0, " + day + ", 0)", desk.x.figure(0, 0, 0, day, 0), due[day], 0);
        }
        for (int day : new int[] {-1, 6, 999, LOWEST, HIGHEST}) {
            BUSY.noFigure("figure(0, 0, 0, " + day + ", 0)", x -> x.figure(0, 0, 0, day, 0), 2);
            BUSY.noFigure("figure(0, 3, 0, " + day + ", 0): 1 comes ahead", x -> x.figure(0, 3, 0, day, 0), 1);
        }
    }

    private static void figureFillings() {
        CHECKS.sentence("Term III and promise 17", "by a FILLING (0 .. 4). -2^63: 2 (FILLING)");
        Desk desk = Lands.busy();
        for (int filling = 0; filling < 5; filling++) {
            CHECKS.dueWith(desk.x, "figure(0, 0, 0, 5, " + filling + ")", desk.x.figure(0, 0, 0, 5, filling), 4, 0);
        }
        for (int filling : new int[] {-1, 5, LOWEST, HIGHEST}) {
            BUSY.noFigure("figure(0, 0, 0, 5, " + filling + ")", x -> x.figure(0, 0, 0, 5, filling), 2);
            BUSY.noFigure("figure(4, 0, 0, 5, " + filling + "): 1 comes ahead", x -> x.figure(4, 0, 0, 5, filling), 1);
        }
    }

    private static final String PAIR = "field a top 2 cost 1; field b top 3 cost 1";

    private static Desk counted(String rules, String table, int[]... rows) {
        Desk desk = Desk.with(PAIR + rules);
        desk.table(table);
        for (int[] row : rows) {
            desk.row(row);
        }
        return desk;
    }

    private static void rowsNotBroken() {
        CHECKS.sentence("Term III", "over all ROWS THERE on that DAY, not BROKEN then");
        CHECKS.due("not BROKEN", counted("; never b = 2", "count", new int[] {0, 1}).x.figure(0, 0, 0, 0, 0), 1);
        CHECKS.due("BROKEN", counted("; never b = 2", "count", new int[] {0, 2}).x.figure(0, 0, 0, 0, 0), 0);
        CHECKS.due("BROKEN, sum", counted("; never b = 2", "sum b", new int[] {0, 2}, new int[] {0, 3}).x
                .figure(0, 0, 0, 0, 0), 3);
        Desk desk = counted("; never b = 2", "count", new int[] {0, 2});
        desk.x.pass(1);
        desk.x.mend(0);
        CHECKS.due("BROKEN then", desk.x.figure(0, 0, 0, 0, 0), 0);
        CHECKS.due("MENDED then", desk.x.figure(0, 0, 0, 1, 0), 1);
    }

    private static void rowsThatHold() {
        CHECKS.sentence("Term III", "for which where holds");
        String where = "count where b > 0 and b < 3";
        long[] due = {0, 1, 1, 0};
        for (int b = 0; b <= 3; b++) {
            CHECKS.due("b of " + b, counted("", where, new int[] {0, b}).x.figure(0, 0, 0, 0, 0), due[b]);
        }
        CHECKS.due("a GAP", counted("", where, new int[] {0, -1}).x.figure(0, 0, 0, 0, 0), 0);
        CHECKS.due("a GAP, without where", counted("", "count", new int[] {0, -1}).x.figure(0, 0, 0, 0, 0), 1);
        CHECKS.due("a GAP elsewhere", counted("", where, new int[] {-1, 1}).x.figure(0, 0, 0, 0, 0), 1);
    }

    private static void rowsOfTheCell() {
        CHECKS.sentence("Term III", "which have the CELL's VALUES");
        Desk desk = counted("", "count by a, b", new int[] {2, 3}, new int[] {-1, 3}, new int[] {2, -1}, new int[] {-1, -1});
        for (int i = 0; i <= 2; i++) {
            for (int j = 0; j <= 3; j++) {
                CHECKS.due("CELL " + i + ", " + j, desk.x.figure(0, i, j, 0, 0), i == 2 && j == 3 ? 1 : 0);
            }
        }
        Desk one = counted("", "count by b", new int[] {2, 3}, new int[] {-1, 3}, new int[] {2, -1}, new int[] {-1, 0});
        long[] due = {1, 0, 0, 2};
        for (int i = 0; i <= 3; i++) {
            CHECKS.due("CELL " + i, one.x.figure(0, i, 0, 0, 0), due[i]);
        }
    }

    private static void sumWithoutGaps() {
        CHECKS.sentence("Term III", "and for sum no GAP in its FIELD");
        CHECKS.due("a GAP in it", counted("", "sum b", new int[] {0, -1}).x.figure(0, 0, 0, 0, 0), 0);
        CHECKS.due("and a VALUE", counted("", "sum b", new int[] {0, -1}, new int[] {0, 3}).x.figure(0, 0, 0, 0, 0), 3);
        CHECKS.due("a GAP in another FIELD", counted("", "sum b", new int[] {-1, 3}).x.figure(0, 0, 0, 0, 0), 3);
        CHECKS.due("a count", counted("", "count", new int[] {-1, -1}).x.figure(0, 0, 0, 0, 0), 1);
        CHECKS.dueNotLed(counted("", "sum b", new int[] {0, -1}).x, 0, 0, 0, 0);
        CHECKS.dueLed(counted("", "sum b", new int[] {0, 0}).x, 0, 0, 0, 0, 0);
    }

    private static void sumOfWeights() {
        CHECKS.sentence("Term III", "the sum of their WEIGHTS (for sum: times the VALUE)");
        Desk desk = counted("", "count", new int[] {0, 0}, new int[] {0, 3});
        desk.table("sum b");
        CHECKS.due("at first", desk.x.figure(0, 0, 0, 0, 0), 2);
        CHECKS.due("sum at first", desk.x.figure(1, 0, 0, 0, 0), 3);
        desk.x.weight(0, 99);
        CHECKS.due("count", desk.x.figure(0, 0, 0, 0, 0), 100);
        CHECKS.due("a VALUE of 0", desk.x.figure(1, 0, 0, 0, 0), 3);
        desk.x.weight(1, 99);
        CHECKS.due("sum", desk.x.figure(1, 0, 0, 0, 0), 297);
        Desk none = counted("", "sum b");
        CHECKS.dueWith(none.x, "without ROWS", none.x.figure(0, 0, 0, 0, 0), 0, 0);
        Desk most = Desk.with("field a top 9 cost 1");
        most.table("sum a by a");
        for (int k = 0; k < 60; k++) {
            most.row(9);
            most.x.weight(k, 99);
        }
        CHECKS.due("the most there can be", most.x.figure(0, 9, 0, 0, 0), 53460);
    }

    private static void asOfADay() {
        CHECKS.sentence("Term II", "VALUES on a DAY by a FILLING: what it had then");
        Desk desk = counted("; never a = 0", "count by a", new int[] {0, -1});
        desk.table("sum b by a");
        desk.x.pass(2);
        desk.x.mend(0);
        desk.x.pass(2);
        desk.row(1, 2);
        desk.row(1, 3);
        desk.x.fill(0, 0);
        long[] counts = {0, 0, 1, 1, 3};
        for (int day = 0; day <= 4; day++) {
            CHECKS.due("count as of DAY " + day, desk.x.figure(0, 1, 0, day, 0), counts[day]);
            CHECKS.due("of the VALUE ahead, DAY " + day, desk.x.figure(0, 0, 0, day, 0), 0);
            CHECKS.due("sum as of DAY " + day, desk.x.figure(1, 1, 0, day, 0), day < 4 ? 0 : 7);
            CHECKS.due("by FILLING 1, DAY " + day, desk.x.figure(1, 1, 0, day, 1), day < 4 ? 0 : 8);
        }
    }

    private static Desk fillable(int lot) {
        Desk desk = Desk.with("field a top 4 cost 1; field b top 1 cost 1");
        desk.table("sum a");
        desk.row(-1, 0);
        for (int v = 0; v <= 4; v++) {
            desk.row(v, 0);
        }
        desk.x.weight(0, 10);
        desk.x.pass(1);
        desk.x.fill(0, lot);
        return desk;
    }

    private static void span() {
        CHECKS.sentence("Term III and promise 18", "SPAN: the least and the most over FILLINGS, as of TODAY");
        Desk desk = Lands.busy();
        CHECKS.dueWith(desk.x, "without FILLINGS in it, the least", desk.x.span(0, 0, 0, false), 4, 0);
        CHECKS.dueWith(desk.x, "the most", desk.x.span(0, 0, 0, true), 4, 0);
        Desk two = fillable(0);
        CHECKS.due("the least", two.x.span(0, 0, 0, false), 10);
        CHECKS.due("the most", two.x.span(0, 0, 0, true), 50);
        two.x.withdraw(0);
        CHECKS.due("as of TODAY, the most", two.x.span(0, 0, 0, true), 10);
        Desk empty = Lands.bare();
        empty.table("count");
        CHECKS.dueWith(empty.x, "without ROWS", empty.x.span(0, 0, 0, true), 0, 0);
    }

    private static void spanOfEveryFilling() {
        CHECKS.sentence("Term III", "SPAN: the least and the most over FILLINGS: each of 0 .. 4 counts");
        for (int lot = 0; lot < 5; lot++) {
            Desk desk = fillable(lot);
            CHECKS.due("the least, LOT " + lot, desk.x.span(0, 0, 0, false), 10);
            CHECKS.due("the most, LOT " + lot, desk.x.span(0, 0, 0, true), 50);
            CHECKS.due("by FILLING 0", desk.x.figure(0, 0, 0, 1, 0), 10 + 10 * lot);
        }
    }

    private static void far() {
        CHECKS.sentence("Term III and promise 19", "FAR: the FIGURE as of the second DAY less the first (FILLING 0)");
        Desk desk = Desk.with("field a top 3 cost 1");
        desk.table("sum a");
        desk.row(3);
        desk.x.pass(1);
        desk.row(2);
        desk.x.pass(1);
        desk.x.withdraw(0);
        long[] due = {3, 5, 2};
        for (int day = 0; day <= 2; day++) {
            for (int other = 0; other <= 2; other++) {
                CHECKS.dueWith(desk.x, "far(0, 0, 0, " + day + ", " + other + ")", desk.x.far(0, 0, 0, day, other),
                        due[other] - due[day], 0);
            }
        }
        CHECKS.due("by FILLING 0", fillable(2).x.far(0, 0, 0, 0, 1), 20);
        CHECKS.due("by FILLING 0, the other way round", fillable(2).x.far(0, 0, 0, 1, 0), -20);
    }

    private static void farIsRefused() {
        CHECKS.sentence("Promise 19", "-2^63: 1; 2");
        for (int day : new int[] {-1, 6, LOWEST, HIGHEST}) {
            BUSY.noFigure("far(0, 0, 0, " + day + ", 0)", x -> x.far(0, 0, 0, day, 0), 2);
            BUSY.noFigure("far(0, 0, 0, 0, " + day + ")", x -> x.far(0, 0, 0, 0, day), 2);
            BUSY.noFigure("far(0, 3, 0, 0, " + day + "): 1 comes ahead", x -> x.far(0, 3, 0, 0, day), 1);
        }
        CHECKS.dueWith(Lands.busy().x, "far(0, 0, 0, 0, 5)", Lands.busy().x.far(0, 0, 0, 0, 5), 0, 0);
    }

    private static void knownSums() {
        CHECKS.sentence("Term III", "known sums (0 .. 1,000,000)");
        Desk desk = Desk.with("field a top 2 cost 1");
        desk.table("count");
        desk.row(2);
        for (int sum : new int[] {0, 1, 999999, 1000000}) {
            CHECKS.dueWith(desk.x, "known(0, 2, " + sum + ")", desk.x.known(0, 2, sum), true, 0);
            CHECKS.due("agreed(0, 0, 0, false)", desk.x.agreed(0, 0, 0, false), sum);
        }
        for (int sum : new int[] {-1, 1000001, LOWEST, HIGHEST}) {
            BUSY.no("known(0, 0, " + sum + ")", x -> x.known(0, 0, sum), 2);
        }
    }

    private static void knownTops() {
        CHECKS.sentence("Term III and promise 20", "of one FIELD whose top is 2 at most; 5 (its top is above 2)");
        for (int top = 1; top <= 9; top++) {
            Desk desk = Desk.with("field q top 1 cost 1; field a top " + top + " cost 1");
            desk.table("count");
            boolean agreed = top <= 2;
            CHECKS.dueWith(desk.x, "known(1, " + top + ", 1) of top " + top, desk.x.known(1, top, 1), agreed, agreed ? 0 : 5);
            CHECKS.dueWith(desk.x, "agreed", desk.x.agreed(0, 0, 0, true), agreed ? 1 : NO, agreed ? 0 : 5);
        }
        Twins top = new Twins(CHECKS, () -> Desk.with("field q top 1 cost 1; field a top 3 cost 1"));
        for (int v = 0; v <= 3; v++) {
            int of = v;
            top.no("known(1, " + v + ", 0) of top 3", x -> x.known(1, of, 0), 5);
        }
        top.no("known(1, 4, 0): 1 comes ahead of 5", x -> x.known(1, 4, 0), 1);
        top.no("known(1, 3, -1): 2 comes ahead of 5", x -> x.known(1, 3, -1), 2);
    }

    private static void knownIsRefused() {
        CHECKS.sentence("Promise 20", "false: 1; 2; 5");
        int[][] none = {{-1, 0}, {3, 0}, {6, 0}, {LOWEST, 0}, {HIGHEST, 0}, {0, -1}, {0, 3}, {0, LOWEST}, {0, HIGHEST}, {2, 2}};
        for (int[] of : none) {
            BUSY.no("known(" + of[0] + ", " + of[1] + ", 5)", x -> x.known(of[0], of[1], 5), 1);
            BUSY.no("known(" + of[0] + ", " + of[1] + ", -1): 1 comes ahead of 2", x -> x.known(of[0], of[1], -1), 1);
        }
        UNTOLD.no("known(0, 0, 0) without a BOOK", x -> x.known(0, 0, 0), 1);
        BARE.no("known(0, 0, 1000001): nothing is AGREED by it", x -> x.known(0, 0, 1000001), 2);
    }

    private static void knownOfAnotherField() {
        CHECKS.sentence("Promise 20", "that one is AGREED from now on; sums of another one are 0 then");
        Desk desk = Desk.with("field a top 1 cost 1; field b top 1 cost 1; field c top 3 cost 1");
        CountOffice x = desk.x;
        desk.table("count");
        desk.row(0, 1, 0);
        x.known(0, 0, 10);
        CHECKS.due("AGREED by a", x.agreed(0, 0, 0, false), 10);
        x.known(0, 1, 7);
        CHECKS.due("another VALUE of it", x.agreed(0, 0, 0, false), 10);
        x.known(2, 0, 5);
        CHECKS.due("behind one refused", x.agreed(0, 0, 0, false), 10);
        x.known(1, 0, 3);
        CHECKS.due("AGREED by b, of whose 1 nothing is told", x.agreed(0, 0, 0, false), 0);
        CHECKS.due("denominator", x.agreed(0, 0, 0, true), 1);
        x.known(1, 1, 4);
        CHECKS.due("AGREED by b", x.agreed(0, 0, 0, false), 4);
        x.known(0, 1, 9);
        CHECKS.due("AGREED by a anew: the sum told ahead is 0", x.agreed(0, 0, 0, false), 0);
        x.known(0, 0, 6);
        CHECKS.due("AGREED by a", x.agreed(0, 0, 0, false), 6);
    }

    private static Desk weighed() {
        Desk desk = Desk.with("field a top 2 cost 1; field b top 3 cost 1; never b = 3");
        desk.table("count where b = 1");
        desk.table("sum b");
        desk.row(0, 0);
        desk.row(0, 1);
        desk.x.weight(0, 1);
        desk.x.weight(1, 2);
        desk.x.known(0, 0, 10);
        return desk;
    }

    private static void agreedWeights() {
        CHECKS.sentence("Term III", "that WEIGHT times the known sum of its VALUE by all WEIGHTS of ROWS THERE TODAY, not BROKEN, with that VALUE");
        Desk desk = weighed();
        CountOffice x = desk.x;
        fraction(x, 0, "2 of 3", 20, 3);
        fraction(x, 1, "2 of 3, times 1", 20, 3);
        desk.row(0, 3);
        x.weight(2, 97);
        fraction(x, 0, "with one that is BROKEN", 20, 3);
        desk.row(0, 2);
        fraction(x, 0, "with one more: 2 of 4", 5, 1);
        fraction(x, 1, "2 of 4 times 1, 1 of 4 times 2", 10, 1);
        x.pass(1);
        x.withdraw(3);
        fraction(x, 0, "that is WITHDRAWN", 20, 3);
        desk.row(0, -1);
        fraction(x, 0, "with a GAP in another FIELD: 2 of 4", 5, 1);
        x.fill(4, 1);
        fraction(x, 0, "FILLED by FILLING 0 with 1: 3 of 4", 15, 2);
        desk.row(1, 1);
        x.known(0, 1, 3);
        fraction(x, 0, "another VALUE by its own sum", 21, 2);
    }

    private static void fraction(CountOffice x, int table, String why, long numerator, long denominator) {
        CHECKS.dueWith(x, "numerator: " + why, x.agreed(table, 0, 0, false), numerator, 0);
        CHECKS.dueWith(x, "denominator: " + why, x.agreed(table, 0, 0, true), denominator, 0);
    }

    private static void agreedNone() {
        CHECKS.sentence("Term III", "(0, if these are 0; ROWS with a GAP there have 0)");
        Desk desk = Desk.with("field a top 2 cost 1; field b top 3 cost 1");
        desk.table("count");
        desk.x.known(0, 0, 10);
        fraction(desk.x, 0, "without ROWS", 0, 1);
        desk.row(-1, 1);
        desk.x.weight(0, 9);
        fraction(desk.x, 0, "a GAP", 0, 1);
        desk.row(1, 1);
        fraction(desk.x, 0, "a VALUE without a sum", 0, 1);
        desk.row(0, 1);
        fraction(desk.x, 0, "a VALUE with a sum", 10, 1);
        desk.x.withdraw(2);
        fraction(desk.x, 0, "WITHDRAWN", 0, 1);
    }

    private static void lowestTerms() {
        CHECKS.sentence("Term III", "A FIGURE so, as of TODAY by FILLING 0, is a fraction in lowest terms");
        for (int sum = 0; sum <= 12; sum++) {
            CountOffice x = weighed().x;
            x.known(0, 0, sum);
            int by = sum % 3 == 0 ? 3 : 1;
            fraction(x, 0, "2 times " + sum + " by 3", 2 * sum / by, 3 / by);
        }
        Desk most = Desk.with("field a top 1 cost 1; field b top 9 cost 1");
        most.table("sum b");
        most.row(0, 9);
        most.row(1, 9);
        most.row(0, 0);
        most.row(1, 0);
        most.x.weight(0, 99);
        most.x.weight(1, 98);
        most.x.known(0, 0, 1000000);
        most.x.known(0, 1, 999983);
        // 9 times 99 by 100 of a million, and 9 times 98 by 99 of the other sum.
        fraction(most.x, 0, "two fractions: 8,910,000 and 97,998,334 by 11", 196008334, 11);
        most.x.known(0, 1, 999999);
        fraction(most.x, 0, "two fractions: 8,910,000 and 8,909,082", 17819082, 1);
    }

    private static void agreedIsRefused() {
        CHECKS.sentence("Promise 21", "-2^63: 1; 5 (nothing is AGREED)");
        Twins none = new Twins(CHECKS, FigureBoundTests::cross);
        none.noFigure("agreed(0, 0, 0, true)", x -> x.agreed(0, 0, 0, true), 5);
        none.noFigure("agreed(0, 0, 0, false)", x -> x.agreed(0, 0, 0, false), 5);
        none.noFigure("agreed(1, 0, 0, false): 1 comes ahead of 5", x -> x.agreed(1, 0, 0, false), 1);
        none.noFigure("agreed(0, 0, 3, false): 1 comes ahead of 5", x -> x.agreed(0, 0, 3, false), 1);
        Desk desk = cross();
        desk.x.known(0, 0, 0);
        CHECKS.dueWith(desk.x, "AGREED by a sum of 0", desk.x.agreed(0, 0, 0, true), 1, 0);
        desk.book(Lands.BOOK);
        desk.table("count");
        CHECKS.dueWith(desk.x, "behind another BOOK", desk.x.agreed(0, 0, 0, true), NO, 5);
    }

    private static Desk cross() {
        Desk desk = Lands.bare();
        desk.table(Lands.CROSS);
        desk.row(0, 0, 0);
        return desk;
    }

    private static Desk places() {
        Desk desk = Desk.with("field a top 3 cost 1; field b top 2 cost 1; never b = 2");
        desk.table("count where b = 1");
        desk.table("count");
        desk.table("sum b where b = 0");
        desk.table("count by a");
        desk.rows(2, 0, 0);
        desk.rows(1, 0, 1);
        desk.rows(1, 1, 0);
        desk.rows(2, 1, 1);
        desk.rows(1, 2, 1);
        return desk;
    }

    private static void groups() {
        CHECKS.sentence("Term III", "GROUP (0 .. 9, of each VALUE; 0 until told)");
        for (int g = 0; g <= 9; g++) {
            CountOffice x = places().x;
            CHECKS.dueWith(x, "group(0, 1, " + g + ")", x.group(0, 1, g), true, 0);
            CHECKS.due("LIKE of 0", x.small(0, 0, 0, 2), g == 0 ? 750 : 1000);
            CHECKS.dueWith(x, "group(0, 0, " + g + ")", x.group(0, 0, g), true, 0);
            CHECKS.due("LIKE of 0", x.small(0, 0, 0, 2), g == 0 ? 750 : 666);
        }
        for (int g : new int[] {-1, 10, LOWEST, HIGHEST}) {
            BUSY.no("group(0, 1, " + g + ")", x -> x.group(0, 1, g), 2);
        }
    }

    private static void groupIsRefused() {
        CHECKS.sentence("Promise 22", "GROUP of a VALUE of a FIELD: true; false: 1; 2");
        int[][] none = {{-1, 0}, {3, 0}, {6, 0}, {LOWEST, 0}, {HIGHEST, 0}, {0, -1}, {0, 3}, {2, 2}, {0, LOWEST}, {0, HIGHEST}};
        for (int[] of : none) {
            BUSY.no("group(" + of[0] + ", " + of[1] + ", 5)", x -> x.group(of[0], of[1], 5), 1);
            BUSY.no("group(" + of[0] + ", " + of[1] + ", 10): 1 comes ahead of 2", x -> x.group(of[0], of[1], 10), 1);
        }
        UNTOLD.no("group(0, 0, 0) without a BOOK", x -> x.group(0, 0, 0), 1);
        Desk desk = Lands.busy();
        CHECKS.dueWith(desk.x, "the last VALUE of the last FIELD", desk.x.group(2, 1, 9), true, 0);
    }

    private static void groupAtFirst() {
        CHECKS.sentence("Term III", "GROUP: of each VALUE; 0 until told");
        CountOffice x = places().x;
        CHECKS.due("all are of GROUP 0", x.small(0, 0, 0, 2), 750);
        x.group(1, 1, 4);
        CHECKS.due("that of another FIELD is of no matter", x.small(0, 0, 0, 2), 750);
        x.group(0, 0, 4);
        CHECKS.due("alone in its GROUP", x.small(0, 0, 0, 2), 0);
        x.group(0, 2, 4);
        CHECKS.due("with 2", x.small(0, 0, 0, 2), 1000);
        x.group(0, 1, 4);
        CHECKS.due("with 1 and 2", x.small(0, 0, 0, 2), 750);
        x.group(0, 1, 0);
        CHECKS.due("told again", x.small(0, 0, 0, 2), 1000);
        CHECKS.due("3 has no ROWS and is with 1", x.small(0, 0, 3, 2), 666);
    }

    private static void groupsOfFields() {
        CHECKS.sentence("Promise 22", "GROUP of a VALUE of a FIELD: of that one alone");
        Desk desk = Desk.with("field a top 9 cost 1; field b top 9 cost 1; field c top 9 cost 1");
        CountOffice x = desk.x;
        desk.table("count where c > 4");
        desk.row(9, 9, 9);
        desk.row(0, 0, 0);
        desk.row(1, 1, 1);
        for (int f = 0; f < 3; f++) {
            CHECKS.due("LIKE of 0", x.small(0, f, 0, 2), 500);
        }
        CHECKS.due("group(1, 9, 4)", x.group(1, 9, 4), true);
        int[] likeOf0 = {500, 0, 500};
        int[] likeOf9 = {0, 0, 0};
        int[] likeOf1 = {500, 0, 500};
        for (int f = 0; f < 3; f++) {
            CHECKS.due("LIKE of 0 in FIELD " + f, x.small(0, f, 0, 2), likeOf0[f]);
            CHECKS.due("LIKE of 9 in FIELD " + f, x.small(0, f, 9, 2), likeOf9[f]);
            CHECKS.due("LIKE of 1 in FIELD " + f, x.small(0, f, 1, 2), likeOf1[f]);
        }
        CHECKS.due("group(2, 0, 4)", x.group(2, 0, 4), true);
        CHECKS.due("that of the FIELD ahead stays", x.small(0, 1, 0, 2), 0);
        CHECKS.due("alone", x.small(0, 2, 0, 2), 0);
        CHECKS.due("without it", x.small(0, 2, 1, 2), 1000);
        desk.row(9, -1, 9);
        CHECKS.due("a GAP is of no GROUP", x.small(0, 1, 0, 2), 0);
        CHECKS.due("a GAP is of no GROUP, with another one", x.small(0, 1, 9, 2), 0);
    }

    private static void own() {
        CHECKS.sentence("Term III", "OWN: how many of a thousand hold its where (0 without ROWS; all hold without where). All downwards");
        CountOffice x = places().x;
        CHECKS.dueWith(x, "1 of 3", x.small(0, 0, 0, 1), 333, 0);
        CHECKS.due("2 of 3", x.small(0, 0, 1, 1), 666);
        CHECKS.due("1 of 1", x.small(0, 0, 2, 1), 1000);
        CHECKS.dueWith(x, "without ROWS", x.small(0, 0, 3, 1), 0, 0);
        CHECKS.due("without where", x.small(1, 0, 0, 1), 1000);
        CHECKS.due("without where and without ROWS", x.small(1, 0, 3, 1), 0);
        CHECKS.due("a sum's where: 2 of 3", x.small(2, 0, 0, 1), 666);
        CHECKS.due("0 of 1", x.small(2, 0, 2, 1), 0);
    }

    private static void ownRows() {
        CHECKS.sentence("Term III", "OWN: among ROWS THERE TODAY, not BROKEN, with that VALUE (by FILLING 0); ROWS, not WEIGHTS");
        Desk desk = places();
        CountOffice x = desk.x;
        x.weight(2, 99);
        CHECKS.due("not WEIGHTS", x.small(0, 0, 0, 1), 333);
        desk.row(0, 2);
        CHECKS.due("not a BROKEN one", x.small(0, 0, 0, 1), 333);
        desk.row(-1, 1);
        CHECKS.due("not one with a GAP", x.small(0, 0, 0, 1), 333);
        x.pass(1);
        desk.row(0, 1);
        CHECKS.due("one of TODAY: 2 of 4", x.small(0, 0, 0, 1), 500);
        x.withdraw(0);
        CHECKS.due("not one WITHDRAWN TODAY: 2 of 3", x.small(0, 0, 0, 1), 666);
        desk.row(0, -1);
        CHECKS.due("a GAP in where: 2 of 4", x.small(0, 0, 0, 1), 500);
        CHECKS.due("three give", x.fill(10, 2), 3);
        CHECKS.due("by FILLING 0", x.value(10, 1, 1, 0), 1);
        CHECKS.due("by FILLING 1", x.value(10, 1, 1, 1), 0);
        CHECKS.due("FILLED by FILLING 0 with 1: 3 of 4", x.small(0, 0, 0, 1), 750);
    }

    private static void like() {
        CHECKS.sentence("Term III", "LIKE: the same among those of all VALUES of that FIELD that are of its GROUP but its own");
        Desk desk = places();
        CountOffice x = desk.x;
        CHECKS.due("of 0: 3 of 4", x.small(0, 0, 0, 2), 750);
        CHECKS.due("of 1: 2 of 4", x.small(0, 0, 1, 2), 500);
        CHECKS.due("of 2: 3 of 6", x.small(0, 0, 2, 2), 500);
        CHECKS.due("of 3, without ROWS: 4 of 7", x.small(0, 0, 3, 2), 571);
        CHECKS.due("without where", x.small(1, 0, 0, 2), 1000);
        desk.row(3, 2);
        CHECKS.due("a BROKEN one isn't among them", x.small(0, 0, 0, 2), 750);
        desk.row(-1, 0);
        CHECKS.due("one with a GAP isn't", x.small(0, 0, 0, 2), 750);
        x.withdraw(6);
        CHECKS.due("one WITHDRAWN isn't: 2 of 3", x.small(0, 0, 0, 2), 666);
        x.group(0, 3, 7);
        CHECKS.due("none of its GROUP", x.small(0, 0, 3, 2), 0);
    }

    private static void part() {
        CHECKS.sentence("Term III", "PART: how many ROWS there are of it by those and M together (M 1 .. 99; 10 until told), in thousandths");
        CountOffice x = places().x;
        CHECKS.dueWith(x, "3 by 13, M at first", x.small(0, 0, 0, 3), 230, 0);
        CHECKS.due("1 by 11", x.small(0, 0, 2, 3), 90);
        CHECKS.due("without ROWS", x.small(0, 0, 3, 3), 0);
        CHECKS.due("without where", x.small(1, 0, 0, 3), 230);
        CHECKS.due("set(2, 1)", x.set(2, 1), true);
        CHECKS.due("3 by 4", x.small(0, 0, 0, 3), 750);
        CHECKS.due("0 by 1", x.small(0, 0, 3, 3), 0);
        CHECKS.due("set(2, 99)", x.set(2, 99), true);
        CHECKS.due("3 by 102", x.small(0, 0, 0, 3), 29);
        CHECKS.due("set(2, 0)", x.set(2, 0), false);
        CHECKS.due("set(2, 100)", x.set(2, 100), false);
        CHECKS.due("3 by 102 still", x.small(0, 0, 0, 3), 29);
        Desk full = Desk.with("field a top 1 cost 1");
        full.table("count");
        full.rows(60, 1);
        full.x.set(2, 1);
        CHECKS.due("60 by 61", full.x.small(0, 0, 1, 3), 983);
    }

    private static void joined() {
        CHECKS.sentence("Term III", "JOINED: (OWN times PART and LIKE times what is left of 1,000) by 1,000. All downwards");
        CountOffice x = places().x;
        // 333 times 230 and 750 times 770 are 654,090.
        CHECKS.dueWith(x, "0", x.small(0, 0, 0, 0), 654, 0);
        // 666 times 230 and 500 times 770 are 538,180.
        CHECKS.due("1", x.small(0, 0, 1, 0), 538);
        // 1,000 times 90 and 500 times 910 are 545,000.
        CHECKS.due("2", x.small(0, 0, 2, 0), 545);
        CHECKS.due("3, without ROWS: LIKE alone", x.small(0, 0, 3, 0), 571);
        CHECKS.due("without where", x.small(1, 0, 0, 0), 1000);
        x.set(2, 1);
        // 333 times 750 and 750 times 250 are 437,250.
        CHECKS.due("M 1", x.small(0, 0, 0, 0), 437);
        x.group(0, 0, 9);
        // 333 times 750 are 249,750.
        CHECKS.due("alone in its GROUP", x.small(0, 0, 0, 0), 249);
    }

    private static void smallIsRefused() {
        CHECKS.sentence("Promise 23", "NONE: 1 (what, too); 5 (the TABLE has a by)");
        for (int what : new int[] {-1, 4, LOWEST, HIGHEST}) {
            BUSY.none("small(2, 0, 0, " + what + ")", x -> x.small(2, 0, 0, what), 1);
            BUSY.none("small(0, 0, 0, " + what + "): 1 comes ahead of 5", x -> x.small(0, 0, 0, what), 1);
        }
        for (int t : new int[] {-1, 4, 8, LOWEST, HIGHEST}) {
            BUSY.none("small(" + t + ", 0, 0, 0)", x -> x.small(t, 0, 0, 0), 1);
        }
        int[][] none = {{-1, 0}, {3, 0}, {6, 0}, {LOWEST, 0}, {HIGHEST, 0}, {0, -1}, {0, 3}, {2, 2}, {0, LOWEST}, {0, HIGHEST}};
        for (int[] of : none) {
            BUSY.none("small(2, " + of[0] + ", " + of[1] + ", 0)", x -> x.small(2, of[0], of[1], 0), 1);
        }
        for (int what = 0; what <= 3; what++) {
            int of = what;
            BUSY.none("small(0, 0, 0, " + what + "): by two", x -> x.small(0, 0, 0, of), 5);
            BUSY.none("small(1, 0, 0, " + what + "): by one", x -> x.small(1, 0, 0, of), 5);
        }
        UNTOLD.none("small(0, 0, 0, 0) without a BOOK", x -> x.small(0, 0, 0, 0), 1);
        BARE.none("small(0, 0, 0, 0) without a TABLE", x -> x.small(0, 0, 0, 0), 1);
        Desk desk = Lands.busy();
        CHECKS.dueWith(desk.x, "the last VALUE of the last FIELD", desk.x.small(2, 2, 1, 1), 666, 0);
    }
}
