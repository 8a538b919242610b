/** Term II and promises 8 to 16, sentence by sentence: ROWS, DAYS, MENDING and FILLING. */
public final class RowBoundTests {
    private static final int LOWEST = Integer.MIN_VALUE;
    private static final int HIGHEST = Integer.MAX_VALUE;
    private static final String SIX = "field a top 1 cost 1;field b top 2 cost 1;field c top 3 cost 1;field d top 4 cost 1;"
            + "field e top 5 cost 1;field f top 6 cost 1";
    private static final Checks CHECKS = new Checks("RowBoundTests");
    private static final Twins BUSY = new Twins(CHECKS, Lands::busy);
    private static final Twins UNTOLD = new Twins(CHECKS, Lands::withoutBook);
    private static final Twins BARE = new Twins(CHECKS, Lands::bare);

    public static void main(String[] args) {
        values();
        valuesOfNoMatter();
        sixtyRows();
        rowIsRefused();
        rowAtFirst();
        gapHoldsNothing();
        allOnesHold();
        someRule();
        weights();
        weightIsRefused();
        withdrawn();
        withdrawIsRefused();
        there();
        value();
        valueIsNone();
        valueByFilling();
        of();
        ofNone();
        mendedOnce();
        mendIsRefused();
        noWay();
        leastCost();
        fewestFields();
        lesserField();
        giverIsThere();
        giverIsWhole();
        giverFits();
        giverIsLike();
        leastValues();
        leastValuesGoBack();
        giver();
        lots();
        lotsGoRound();
        filledOnce();
        fillIsRefused();
        fillGivers();
        fillLikeOnes();
        days();
        passIsRefused();
        CHECKS.close();
    }

    private static int put(CountOffice x, int[] v) {
        return x.row(v[0], v[1], v[2], v[3], v[4], v[5]);
    }

    private static void values() {
        CHECKS.sentence("Term I", "A VALUE of a FIELD: 0 .. its top, or GAP (-1)");
        Twins six = new Twins(CHECKS, () -> Desk.with(SIX));
        for (int f = 0; f < 6; f++) {
            for (int v : new int[] {-1, 0, f + 1}) {
                Desk desk = Desk.with(SIX);
                int[] values = new int[6];
                values[f] = v;
                CHECKS.dueWith(desk.x, "row of " + v + " in FIELD " + f, put(desk.x, values), 0, 0);
                CHECKS.due("value(0, " + f + ", 0, 0)", desk.x.value(0, f, 0, 0), v);
            }
            for (int v : new int[] {-2, f + 2, LOWEST, HIGHEST}) {
                int[] values = new int[6];
                values[f] = v;
                six.none("row of " + v + " in FIELD " + f, x -> put(x, values), 2);
            }
        }
        Desk nine = Desk.with("field a top 9 cost 1");
        CHECKS.due("row(9)", nine.row(9), 0);
        CHECKS.dueWith(nine.x, "row(10)", nine.row(10), -1, 2);
    }

    private static void valuesOfNoMatter() {
        CHECKS.sentence("Promise 8", "those of FIELDS that there aren't are of no matter");
        for (int fields = 1; fields <= 5; fields++) {
            Desk desk = Desk.with(SIX.substring(0, 21 * fields - 1));
            for (int far : new int[] {-2, 10, LOWEST, HIGHEST}) {
                int[] values = {far, far, far, far, far, far};
                for (int f = 0; f < fields; f++) {
                    values[f] = 1;
                }
                CHECKS.dueWith(desk.x, fields + " FIELDS, then " + far, put(desk.x, values), desk.x.count(2) - 1, 0);
                CHECKS.due("no GAP", desk.x.of(desk.x.count(2) - 1, 2), 0);
                values[fields - 1] = far;
                CHECKS.dueWith(desk.x, "the last FIELD " + far, put(desk.x, values), -1, 2);
            }
            CHECKS.due("count(2)", desk.x.count(2), 4);
        }
    }

    private static Desk fullLand() {
        Desk desk = Lands.bare();
        desk.table(Lands.CROSS);
        for (int k = 0; k < 60; k++) {
            desk.row(k % 3, -1, k % 2);
        }
        return desk;
    }

    private static void sixtyRows() {
        CHECKS.sentence("Term II", "ROWS: up to 60, numbered as they come");
        Desk desk = Lands.bare();
        for (int k = 0; k < 60; k++) {
            CHECKS.dueWith(desk.x, "row " + k, desk.row(k % 2, 0, 0), k, 0);
        }
        CHECKS.dueWith(desk.x, "row 60", desk.row(0, 0, 0), -1, 3);
        CHECKS.due("count(2)", desk.x.count(2), 60);
        CHECKS.due("the last one", desk.x.value(59, 0, 0, 0), 1);
        CHECKS.due("none behind it", desk.x.value(60, 0, 0, 0), -2);
        desk.x.withdraw(0);
        CHECKS.dueWith(desk.x, "a WITHDRAWN one stays a ROW", desk.row(0, 0, 0), -1, 3);
        Twins full = new Twins(CHECKS, RowBoundTests::fullLand);
        full.none("row 60", x -> x.row(0, 0, 0, 0, 0, 0), 3);
        full.none("row 60 with a number", x -> x.row(3, 0, 0, 0, 0, 0), 2);
        CHECKS.due("of a new BOOK 60 again", desk.book(Lands.BOOK), 3);
        CHECKS.dueWith(desk.x, "numbered from 0", desk.row(0, 0, 0), 0, 0);
    }

    private static void rowIsRefused() {
        CHECKS.sentence("Promise 8", "NONE: 1 (no BOOK); 2; 3");
        UNTOLD.none("row(0, ..)", x -> x.row(0, 0, 0, 0, 0, 0), 1);
        UNTOLD.none("row(-2, ..): 1 comes ahead of 2", x -> x.row(-2, 0, 0, 0, 0, 0), 1);
        BUSY.none("row(3, 0, 0)", x -> x.row(3, 0, 0, 0, 0, 0), 2);
        BUSY.none("row(0, 3, 0)", x -> x.row(0, 3, 0, 0, 0, 0), 2);
        BUSY.none("row(0, 0, 2)", x -> x.row(0, 0, 2, 0, 0, 0), 2);
        BUSY.none("row(0, 0, -2)", x -> x.row(0, 0, -2, 0, 0, 0), 2);
        Desk desk = Lands.busy();
        CHECKS.dueWith(desk.x, "row(2, 0, 1)", desk.row(2, 0, 1), 7, 0);
    }

    private static void rowAtFirst() {
        CHECKS.sentence("Promise 8", "A ROW with VALUES, WEIGHT 1: its number; Term II, of TODAY");
        Desk desk = Lands.bare();
        desk.x.pass(7);
        CHECKS.due("row(2, -1, 1)", desk.row(2, -1, 1), 0);
        int[] due = {1, 0, 1, -2, -2, 1, -2};
        for (int what = 0; what < due.length; what++) {
            CHECKS.due("of(0, " + what + ")", desk.x.of(0, what), due[what]);
        }
        CHECKS.due("on the DAY ahead", desk.x.value(0, 0, 6, 0), -2);
        CHECKS.due("on its DAY", desk.x.value(0, 0, 7, 0), 2);
    }

    private static void never(String test, int a, int b, boolean broken) {
        Desk desk = Desk.with("field a top 2 cost 1; field b top 2 cost 1; never " + test);
        desk.row(a, b);
        CHECKS.due("of(0, 1) of (" + a + ", " + b + "), never " + test, desk.x.of(0, 1), broken ? 1 : 0);
        Desk where = Desk.with("field a top 2 cost 1; field b top 2 cost 1");
        where.table("count where " + test);
        where.row(a, b);
        CHECKS.due("figure of (" + a + ", " + b + ") where " + test, where.x.figure(0, 0, 0, 0, 0), broken ? 1 : 0);
    }

    private static void gapHoldsNothing() {
        CHECKS.sentence("Term I", "A ONE with a GAP doesn't hold");
        String[] left = {"a < 1", "a < 99", "a < b", "b > a", "a = a", "a = b"};
        for (String test : left) {
            never(test, -1, 0, false);
            never(test, -1, -1, false);
        }
        never("a > b", 0, -1, false);
        never("b < a", 0, -1, false);
        never("a = b", 0, -1, false);
        never("a < 1", 0, -1, true);
        never("a < b", 0, 1, true);
        never("b > a", 0, 1, true);
        never("a = a", 0, -1, true);
        never("a = b", 0, 0, true);
        never("a < 1 and b = 0", 0, -1, false);
        never("b = 0 and a < 1", 0, -1, false);
    }

    private static void allOnesHold() {
        CHECKS.sentence("Term I", "A TEST holds if all its ONES do");
        never("a = 1 and b = 1", 1, 1, true);
        never("a = 1 and b = 1", 1, 0, false);
        never("a = 1 and b = 1", 0, 1, false);
        never("a = 1 and b = 1", 0, 0, false);
        never("a > 0" + " and a > 0".repeat(10) + " and b > 0", 1, 1, true);
        never("a > 0" + " and a > 0".repeat(10) + " and b > 0", 1, 0, false);
        never("b > 0" + " and a > 0".repeat(11), 1, 0, false);
        never("a > 0 and a < 2", 0, 0, false);
        never("a > 0 and a < 2", 1, 0, true);
        never("a > 0 and a < 2", 2, 0, false);
    }

    private static void someRule() {
        CHECKS.sentence("Term II", "It is BROKEN if the TEST of some RULE holds for it");
        Desk desk = Desk.with("field a top 2 cost 1; field b top 2 cost 1; never a = 1; never b = 1; never a = 2 and b = 2");
        int[][] rows = {{0, 0}, {1, 0}, {0, 1}, {1, 1}, {2, 2}, {2, 0}, {0, 2}};
        int[] rule = {-2, 0, 1, 0, 2, -2, -2};
        for (int k = 0; k < rows.length; k++) {
            desk.row(rows[k]);
            CHECKS.due("of(" + k + ", 6)", desk.x.of(k, 6), rule[k]);
            CHECKS.due("of(" + k + ", 1)", desk.x.of(k, 1), rule[k] < 0 ? 0 : 1);
        }
        CHECKS.due("count(5)", desk.x.count(5), 4);
        Desk none = Desk.with("field a top 1 cost 1");
        none.row(0);
        CHECKS.due("without RULES", none.x.of(0, 1), 0);
    }

    private static void weights() {
        CHECKS.sentence("Term II", "of a WEIGHT (1 .. 99)");
        Desk desk = Lands.busy();
        for (int w : new int[] {1, 2, 98, 99}) {
            CHECKS.dueWith(desk.x, "weight(0, " + w + ")", desk.x.weight(0, w), true, 0);
            CHECKS.due("of(0, 5)", desk.x.of(0, 5), w);
            CHECKS.due("figure(0, 0, 0, 5, 0)", desk.x.figure(0, 0, 0, 5, 0), w);
        }
        for (int w : new int[] {0, 100, -1, LOWEST, HIGHEST}) {
            BUSY.no("weight(0, " + w + ")", x -> x.weight(0, w), 2);
        }
    }

    private static void weightIsRefused() {
        CHECKS.sentence("Promise 9", "WEIGHT of a ROW: true; false: 1; 2");
        for (int row : new int[] {-1, 7, 60, LOWEST, HIGHEST}) {
            BUSY.no("weight(" + row + ", 5)", x -> x.weight(row, 5), 1);
            BUSY.no("weight(" + row + ", 0): 1 comes ahead of 2", x -> x.weight(row, 0), 1);
        }
        BARE.no("weight(0, 1) without ROWS", x -> x.weight(0, 1), 1);
        UNTOLD.no("weight(0, 1) without a BOOK", x -> x.weight(0, 1), 1);
        Desk desk = Lands.busy();
        CHECKS.dueWith(desk.x, "the last ROW", desk.x.weight(6, 5), true, 0);
        CHECKS.dueWith(desk.x, "a WITHDRAWN one", desk.x.weight(3, 5), true, 0);
    }

    private static void withdrawn() {
        CHECKS.sentence("Term II and promise 10", "A ROW is WITHDRAWN from a DAY on (TODAY)");
        Desk desk = Desk.with("field a top 1 cost 1");
        desk.table("count");
        desk.row(0);
        desk.row(1);
        desk.x.pass(10);
        CHECKS.dueWith(desk.x, "withdraw(0)", desk.x.withdraw(0), true, 0);
        CHECKS.due("of(0, 0)", desk.x.of(0, 0), 0);
        CHECKS.due("of(1, 0)", desk.x.of(1, 0), 1);
        CHECKS.due("the DAY ahead", desk.x.figure(0, 0, 0, 9, 0), 2);
        CHECKS.due("the DAY", desk.x.figure(0, 0, 0, 10, 0), 1);
        desk.x.pass(1);
        CHECKS.due("the DAY behind", desk.x.figure(0, 0, 0, 11, 0), 1);
        CHECKS.due("its VALUES stay", desk.x.value(0, 0, 11, 0), 0);
        desk.row(0);
        CHECKS.due("on its own DAY", desk.x.withdraw(2), true);
        CHECKS.due("it was never THERE", desk.x.figure(0, 0, 0, 11, 0), 1);
        Desk first = Desk.with("field a top 1 cost 1");
        first.row(0);
        CHECKS.due("on DAY 0", first.x.withdraw(0), true);
        CHECKS.due("of(0, 0)", first.x.of(0, 0), 0);
        CHECKS.dueWith(first.x, "again", first.x.withdraw(0), false, 5);
    }

    private static void withdrawIsRefused() {
        CHECKS.sentence("Promise 10", "false: 1; 5 (it is already)");
        BUSY.no("withdraw(3)", x -> x.withdraw(3), 5);
        for (int row : new int[] {-1, 7, 60, LOWEST, HIGHEST}) {
            BUSY.no("withdraw(" + row + ")", x -> x.withdraw(row), 1);
        }
        UNTOLD.no("withdraw(0) without a BOOK", x -> x.withdraw(0), 1);
        Desk desk = Lands.busy();
        CHECKS.dueWith(desk.x, "a BROKEN one, the last", desk.x.withdraw(6), true, 0);
        CHECKS.dueWith(desk.x, "a MENDED one", desk.x.withdraw(1), true, 0);
        CHECKS.dueWith(desk.x, "a FILLED one", desk.x.withdraw(2), true, 0);
        desk.x.pass(1);
        CHECKS.dueWith(desk.x, "again, a DAY later", desk.x.withdraw(2), false, 5);
        Desk day = Lands.busy();
        day.x.pass(4);
        day.x.withdraw(3);
        CHECKS.due("the DAY of the first stays", day.x.figure(0, 0, 1, 5, 0), 0);
    }

    private static void there() {
        CHECKS.sentence("Term II", "A ROW is THERE on a DAY from its own DAY on, as long as it isn't WITHDRAWN");
        Desk desk = Desk.with("field a top 1 cost 1");
        desk.table("count");
        desk.x.pass(4);
        desk.row(0);
        CHECKS.due("of(0, 0)", desk.x.of(0, 0), 1);
        CHECKS.due("on the DAY ahead of its own", desk.x.figure(0, 0, 0, 3, 0), 0);
        CHECKS.due("on its own DAY", desk.x.figure(0, 0, 0, 4, 0), 1);
        desk.x.pass(3);
        desk.x.withdraw(0);
        long[] due = {0, 0, 0, 0, 1, 1, 1, 0};
        for (int day = 0; day < due.length; day++) {
            CHECKS.due("on DAY " + day, desk.x.figure(0, 0, 0, day, 0), due[day]);
        }
    }

    private static void value() {
        CHECKS.sentence("Promise 11", "VALUE of a ROW in a FIELD on a DAY (0 .. TODAY) by a FILLING (GAP: NONE)");
        BUSY.quiet("value(0, 0, 0, 0)", x -> x.value(0, 0, 0, 0), 0);
        BUSY.quiet("value(2, 1, 0, 0): a GAP", x -> x.value(2, 1, 0, 0), -1);
        BUSY.quiet("value(6, 1, 5, 0)", x -> x.value(6, 1, 5, 0), 2);
        BUSY.quiet("value(4, 1, 3, 4): its own DAY", x -> x.value(4, 1, 3, 4), 2);
        BUSY.quiet("value(4, 1, 2, 0): the DAY ahead of it", x -> x.value(4, 1, 2, 0), -2);
        BUSY.quiet("value(3, 1, 5, 0): WITHDRAWN", x -> x.value(3, 1, 5, 0), 1);
    }

    private static void valueIsNone() {
        CHECKS.sentence("Promise 11", "-2 for none such, and ahead of its DAY");
        int[][] none = {{-1, 0, 0, 0}, {7, 0, 5, 0}, {60, 0, 5, 0}, {LOWEST, 0, 0, 0}, {HIGHEST, 0, 0, 0}, {0, -1, 0, 0},
            {0, 3, 0, 0}, {0, 6, 0, 0}, {0, LOWEST, 0, 0}, {0, HIGHEST, 0, 0}, {0, 0, -1, 0}, {0, 0, 6, 0},
            {0, 0, LOWEST, 0}, {0, 0, HIGHEST, 0}, {0, 0, 0, -1}, {0, 0, 0, 5}, {0, 0, 0, LOWEST}, {0, 0, 0, HIGHEST}};
        for (int[] of : none) {
            BUSY.quiet("value(" + of[0] + ", " + of[1] + ", " + of[2] + ", " + of[3] + ")",
                    x -> x.value(of[0], of[1], of[2], of[3]), -2);
        }
        UNTOLD.quiet("value(0, 0, 0, 0) without a BOOK", x -> x.value(0, 0, 0, 0), -2);
        BARE.quiet("value(0, 0, 0, 0) without a ROW", x -> x.value(0, 0, 0, 0), -2);
    }

    private static Desk fillable() {
        Desk desk = Desk.with("field a top 4 cost 1; field b top 4 cost 1");
        desk.row(0, -1);
        for (int v = 0; v <= 4; v++) {
            desk.row(0, v);
        }
        return desk;
    }

    private static void valueByFilling() {
        CHECKS.sentence("Term II", "FILLED: from a DAY on (once) it has, for each FILLING 0 .. 4, VALUES in its GAPS");
        Desk desk = fillable();
        CountOffice x = desk.x;
        x.pass(6);
        CHECKS.due("fill(0, 2)", x.fill(0, 2), 5);
        x.pass(1);
        int[] due = {2, 3, 4, 0, 1};
        for (int filling = 0; filling < 5; filling++) {
            CHECKS.due("GAPS are GAPS ahead of its being FILLED", x.value(0, 1, 5, filling), -1);
            CHECKS.due("on the DAY, by " + filling, x.value(0, 1, 6, filling), due[filling]);
            CHECKS.due("a DAY later, by " + filling, x.value(0, 1, 7, filling), due[filling]);
            CHECKS.due("of another FIELD, by " + filling, x.value(0, 0, 6, filling), 0);
        }
        CHECKS.due("no FILLING 5", x.value(0, 1, 6, 5), -2);
        CHECKS.due("no FILLING -1", x.value(0, 1, 6, -1), -2);
        CHECKS.due("of(0, 2): by FILLING 0", x.of(0, 2), 0);
        CHECKS.due("of(0, 4)", x.of(0, 4), 6);
    }

    private static void of() {
        CHECKS.sentence("Promise 12", "Of a ROW: 0 THERE, 1 BROKEN, 2 GAPS, 3 DAY of its MENDING, 4 of its FILLING, 5 WEIGHT, 6 the least RULE");
        int[][] due = {{1, 0, 0, -2, -2, 4, -2}, {1, 0, 0, 5, -2, 1, -2}, {1, 0, 0, -2, 5, 1, -2}, {0, 0, 0, -2, -2, 1, -2},
            {1, 0, 0, -2, -2, 2, -2}, {1, 0, 1, -2, -2, 1, -2}, {1, 1, 0, -2, -2, 1, 0}};
        for (int row = 0; row < due.length; row++) {
            for (int what = 0; what <= 6; what++) {
                int[] of = {row, what};
                BUSY.quiet("of(" + row + ", " + what + ")", x -> x.of(of[0], of[1]), due[row][what]);
            }
        }
        Desk gone = Lands.busy();
        gone.x.withdraw(6);
        CHECKS.due("BROKEN as it is, though WITHDRAWN", gone.x.of(6, 1), 1);
        CHECKS.due("its RULE", gone.x.of(6, 6), 0);
        CHECKS.due("count(5): THERE", gone.x.count(5), 0);
    }

    private static void ofNone() {
        CHECKS.sentence("Promise 12", "NONE for none such");
        int[][] none = {{-1, 0}, {7, 0}, {60, 3}, {LOWEST, 0}, {HIGHEST, 6}, {0, -1}, {0, 7}, {0, LOWEST}, {0, HIGHEST}};
        for (int[] of : none) {
            BUSY.quiet("of(" + of[0] + ", " + of[1] + ")", x -> x.of(of[0], of[1]), -1);
        }
        UNTOLD.quiet("of(0, 0) without a BOOK", x -> x.of(0, 0), -1);
        BARE.quiet("of(0, 0) without a ROW", x -> x.of(0, 0), -1);
    }

    private static void mendedOnce() {
        CHECKS.sentence("Term II", "MENDED: from a DAY on it has other VALUES in some FIELDS (once)");
        Desk desk = Desk.with("field a top 2 cost 1; field b top 2 cost 5; never a = b");
        CountOffice x = desk.x;
        desk.table("count by a");
        desk.row(1, 1);
        x.pass(8);
        CHECKS.dueWith(x, "mend(0)", x.mend(0), 1, 0);
        x.pass(1);
        CHECKS.due("the DAY ahead", x.value(0, 0, 7, 0), 1);
        for (int filling = 0; filling < 5; filling++) {
            CHECKS.due("the DAY, by " + filling, x.value(0, 0, 8, filling), 0);
        }
        CHECKS.due("a DAY later", x.value(0, 0, 9, 0), 0);
        CHECKS.due("the other FIELD", x.value(0, 1, 9, 0), 1);
        CHECKS.due("BROKEN on the DAY ahead: no FIGURE", x.figure(0, 1, 0, 7, 0), 0);
        CHECKS.due("a FIGURE on the DAY", x.figure(0, 0, 0, 8, 0), 1);
        CHECKS.due("of(0, 3)", x.of(0, 3), 8);
        CHECKS.dueWith(x, "again", x.mend(0), -1, 5);
        CHECKS.due("of(0, 3)", x.of(0, 3), 8);
        CHECKS.due("count(6)", x.count(6), 1);
    }

    private static void mendIsRefused() {
        CHECKS.sentence("Promise 13", "NONE: 1; 5 (not BROKEN, WITHDRAWN, MENDED already); 6");
        for (int row : new int[] {-1, 7, 60, LOWEST, HIGHEST}) {
            BUSY.none("mend(" + row + ")", x -> x.mend(row), 1);
        }
        UNTOLD.none("mend(0) without a BOOK", x -> x.mend(0), 1);
        BUSY.none("mend(0): not BROKEN", x -> x.mend(0), 5);
        BUSY.none("mend(5): not BROKEN, with a GAP", x -> x.mend(5), 5);
        BUSY.none("mend(1): MENDED already", x -> x.mend(1), 5);
        Twins gone = new Twins(CHECKS, () -> {
            Desk desk = Lands.busy();
            desk.x.withdraw(6);
            return desk;
        });
        gone.none("mend(6): BROKEN, WITHDRAWN", x -> x.mend(6), 5);
        Desk desk = Lands.busy();
        CHECKS.dueWith(desk.x, "mend(6): BROKEN, THERE", desk.x.mend(6), 2, 0);
    }

    private static Desk stuck() {
        Desk desk = Desk.with("field a top 1 cost 1; field b top 1 cost 1; never a < 2");
        desk.row(0, 0);
        desk.row(-1, 1);
        return desk;
    }

    private static void noWay() {
        CHECKS.sentence("Promise 13", "6; Term II, some VALUES (no GAPS) of these let no RULE's TEST hold");
        Twins stuck = new Twins(CHECKS, RowBoundTests::stuck);
        stuck.none("mend(0): no VALUE will do, a GAP would", x -> x.mend(0), 6);
        Desk one = Desk.with("field a top 1 cost 1; field b top 1 cost 1; never a < 1");
        one.row(0, 0);
        CHECKS.dueWith(one.x, "the top will do", one.x.mend(0), 1, 0);
        CHECKS.due("value(0, 0, 0, 0)", one.x.value(0, 0, 0, 0), 1);
        for (int top = 1; top <= 2; top++) {
            Desk both = Desk.with("field a top 1 cost 1; field b top " + top + " cost 1; never a = 0; never a = 1 and b < 2");
            both.row(0, 0);
            CHECKS.dueWith(both.x, "b of top " + top, both.x.mend(0), top == 1 ? -1 : 3, top == 1 ? 6 : 0);
        }
        Desk later = stuck();
        later.x.mend(0);
        CHECKS.due("of(0, 3)", later.x.of(0, 3), -2);
        CHECKS.due("giver()", later.x.giver(), -1);
    }

    private static Desk mended(String book, int[]... rows) {
        Desk desk = Desk.with(book);
        for (int[] row : rows) {
            desk.row(row);
        }
        return desk;
    }

    private static void leastCost() {
        CHECKS.sentence("Term II", "the one with the least cost together");
        for (int a = 3; a <= 5; a++) {
            Desk desk = mended("field a top 1 cost " + a + "; field b top 1 cost 2; field c top 1 cost 2;"
                    + "never a = 1 and b = 1; never a = 1 and c = 1", new int[] {1, 1, 1});
            CHECKS.due("a costs " + a + ", b and c 4", desk.x.mend(0), a <= 4 ? 1 : 6);
        }
        Desk dear = mended("field a top 1 cost 9; field b top 1 cost 1; field c top 1 cost 7;"
                + "never a = 1 and b = 1; never a = 1 and c = 1", new int[] {1, 1, 1});
        CHECKS.due("9 and 8", dear.x.mend(0), 6);
    }

    private static void fewestFields() {
        CHECKS.sentence("Term II", "of as cheap ones the one of fewest FIELDS");
        Desk first = mended("field a top 1 cost 3; field b top 1 cost 3; field c top 1 cost 6;"
                + "never a = 1 and c = 1; never b = 1 and c = 1", new int[] {1, 1, 1});
        CHECKS.due("c alone", first.x.mend(0), 4);
        Desk cheaper = mended("field a top 1 cost 3; field b top 1 cost 2; field c top 1 cost 6;"
                + "never a = 1 and c = 1; never b = 1 and c = 1", new int[] {1, 1, 1});
        CHECKS.due("a and b are cheaper", cheaper.x.mend(0), 3);
    }

    private static void lesserField() {
        CHECKS.sentence("Term II", "then the one with the lesser FIELD where they first differ");
        CHECKS.due("a or b", mended("field a top 1 cost 1; field b top 1 cost 1; never a = 1 and b = 1",
                new int[] {1, 1}).x.mend(0), 1);
        CHECKS.due("b is cheaper", mended("field a top 1 cost 2; field b top 1 cost 1; never a = 1 and b = 1",
                new int[] {1, 1}).x.mend(0), 2);
        CHECKS.due("a and c, or a and d", mended("field a top 1 cost 1; field b top 1 cost 1; field c top 1 cost 1;"
                + "field d top 1 cost 1; never a = 1; never c = 1 and d = 1", new int[] {1, 0, 1, 1}).x.mend(0), 5);
        CHECKS.due("a and d, or b and c", mended("field a top 1 cost 1; field b top 1 cost 2; field c top 1 cost 2;"
                + "field d top 1 cost 3; never a = 1 and b = 1; never c = 1 and d = 1; never a = 1 and c = 1;"
                + "never b = 1 and d = 1", new int[] {1, 1, 1, 1}).x.mend(0), 9);
    }

    private static final String NEAR = "field a top 3 cost 1; field b top 3 cost 9; field c top 3 cost 9; never a = 0";

    private static void gives(String why, Desk desk, int giver, int value) {
        CHECKS.dueWith(desk.x, "mend(0): " + why, desk.x.mend(0), 1, 0);
        CHECKS.due("giver(): " + why, desk.x.giver(), giver);
        CHECKS.due("value(0, 0, ..): " + why, desk.x.value(0, 0, desk.x.count(4), 0), value);
    }

    private static void giverIsThere() {
        CHECKS.sentence("Term II", "GIVER: of all other ROWS that are THERE");
        gives("no other ROW", mended(NEAR, new int[] {0, 1, 1}), -2, 1);
        gives("another ROW", mended(NEAR, new int[] {0, 1, 1}, new int[] {3, 1, 1}), 1, 3);
        Desk gone = mended(NEAR, new int[] {0, 1, 1}, new int[] {3, 1, 1});
        gone.x.pass(1);
        gone.x.withdraw(1);
        gives("WITHDRAWN TODAY", gone, -2, 1);
        Desk late = mended(NEAR, new int[] {0, 1, 1});
        late.x.pass(1);
        late.row(3, 1, 1);
        gives("of TODAY", late, 1, 3);
        Desk last = mended(NEAR, new int[] {0, 1, 1});
        last.rows(58, 3, 2, 2);
        last.row(2, 1, 1);
        gives("the sixtieth ROW", last, 59, 2);
    }

    private static void giverIsWhole() {
        CHECKS.sentence("Term II", "not BROKEN, without GAPS in these FIELDS (all by FILLING 0)");
        String rule = NEAR + "; never b = 3";
        gives("BROKEN", mended(rule, new int[] {0, 1, 1}, new int[] {3, 3, 1}), -2, 1);
        gives("not BROKEN", mended(rule, new int[] {0, 1, 1}, new int[] {3, 2, 1}), 1, 3);
        gives("a GAP in the FIELD", mended(NEAR, new int[] {0, 1, 1}, new int[] {-1, 1, 1}), -2, 1);
        gives("GAPS in others", mended(NEAR, new int[] {0, 1, 1}, new int[] {3, -1, -1}), 1, 3);
        Desk filled = mended(NEAR, new int[] {0, 1, 1}, new int[] {-1, 1, 1}, new int[] {2, 1, 1}, new int[] {3, 1, 1});
        filled.x.fill(1, 1);
        gives("a FILLED one, by FILLING 0", filled, 1, 3);
    }

    private static void giverFits() {
        CHECKS.sentence("Term II", "and whose VALUES of these FIELDS would let no TEST hold");
        String rule = NEAR + "; never a = 2 and c = 1; never a = 1 and b = 1";
        gives("its VALUE would break the ROW", mended(rule, new int[] {0, 1, 1}, new int[] {2, 1, 0}), -2, 3);
        gives("its VALUE would do", mended(rule, new int[] {0, 1, 1}, new int[] {2, 1, 0}, new int[] {3, 3, 3}), 2, 3);
    }

    private static void giverIsLike() {
        CHECKS.sentence("Term II", "unlike it (by FILLING 0; a GAP is like a GAP alone) in the fewest of the other FIELDS, then the least number");
        int[] row = {0, 1, 1};
        gives("two unlike, one unlike", mended(NEAR, row, new int[] {1, 2, 2}, new int[] {2, 1, 2}), 2, 2);
        gives("one unlike, none", mended(NEAR, row, new int[] {1, 2, 1}, new int[] {2, 1, 1}), 2, 2);
        gives("as like: the least number", mended(NEAR, row, new int[] {3, 1, 2}, new int[] {2, 2, 1}), 1, 3);
        int[] gap = {0, -1, 1};
        gives("a GAP is like a GAP", mended(NEAR, gap, new int[] {2, 0, 1}, new int[] {3, -1, 1}), 2, 3);
        gives("a GAP isn't like a VALUE", mended(NEAR, gap, new int[] {2, 0, 1}, new int[] {3, -1, 2}), 1, 2);
        gives("nor a VALUE like a GAP", mended(NEAR, row, new int[] {2, -1, 1}, new int[] {3, 1, 1}), 2, 3);
        for (int lot = 0; lot < 2; lot++) {
            // The FILLED ROW 2 has 3 by FILLING 0 and 1, as the ROW 0 has, by FILLING 1; or the other way round.
            Desk filled = mended(NEAR, row, new int[] {3, 1, 2}, new int[] {2, -1, 1}, new int[] {2, 3, 1}, new int[] {2, 1, 1});
            CHECKS.due("fill(2, " + lot + ")", filled.x.fill(2, lot), 2);
            filled.x.withdraw(3);
            filled.x.withdraw(4);
            gives("a FILLED one by FILLING 0", filled, lot == 0 ? 1 : 2, lot == 0 ? 3 : 2);
        }
    }

    private static void leastValues() {
        CHECKS.sentence("Term II", "without one the least VALUES that do, the first FIELD counting most");
        Desk desk = mended("field a top 2 cost 1; field b top 2 cost 1; never a = 0; never b = 0; never a = 1 and b = 1",
                new int[] {0, 0});
        CHECKS.due("mend(0)", desk.x.mend(0), 3);
        CHECKS.due("giver()", desk.x.giver(), -2);
        CHECKS.due("a: 1 and 2, not 2 and 1", desk.x.value(0, 0, 0, 0), 1);
        CHECKS.due("b", desk.x.value(0, 1, 0, 0), 2);
        Desk tops = mended("field a top 9 cost 1; field b top 9 cost 1; field c top 9 cost 1; field d top 9 cost 1;"
                + "never a < 9; never b < a; never c < b; never d < c", new int[] {0, 0, 0, 0});
        CHECKS.due("all FIELDS", tops.x.mend(0), 15);
        for (int f = 0; f < 4; f++) {
            CHECKS.due("its top, FIELD " + f, tops.x.value(0, f, 0, 0), 9);
        }
        Desk zero = mended("field a top 9 cost 1; never a > 0", new int[] {9});
        CHECKS.due("mend(0)", zero.x.mend(0), 1);
        CHECKS.due("the least is 0", zero.x.value(0, 0, 0, 0), 0);
    }

    private static void leastValuesGoBack() {
        CHECKS.sentence("Term II", "the least VALUES that do, the first FIELD counting most: those that lead nowhere are left");
        Desk desk = mended("field a top 3 cost 1; field b top 3 cost 1; field c top 3 cost 1; never a < 1; never b < 1;"
                + "never c < 2; never c > b; never b > a; never a = 2 and b = 2", new int[] {0, 0, 0});
        CHECKS.due("all FIELDS", desk.x.mend(0), 7);
        int[] due = {3, 2, 2};
        for (int f = 0; f < 3; f++) {
            CHECKS.due("FIELD " + f, desk.x.value(0, f, 0, 0), due[f]);
        }
        Desk last = mended("field a top 2 cost 1; field b top 2 cost 1; never a < 2 and b < 9; never a = 2 and b < 2",
                new int[] {0, 0});
        CHECKS.due("both", last.x.mend(0), 3);
        CHECKS.due("a", last.x.value(0, 0, 0, 0), 2);
        CHECKS.due("b", last.x.value(0, 1, 0, 0), 2);
        Desk anew = mended("field a top 2 cost 1; field b top 2 cost 1; field c top 2 cost 1; never a = 0;"
                + "never b = 0 and c < 9; never a = 1 and b > 0 and c < 2; never c = 2 and a = 1; never c = 0",
                new int[] {0, 0, 0});
        CHECKS.due("all FIELDS", anew.x.mend(0), 7);
        CHECKS.due("a: 1 leads nowhere", anew.x.value(0, 0, 0, 0), 2);
        CHECKS.due("b begins anew", anew.x.value(0, 1, 0, 0), 1);
        CHECKS.due("c begins anew", anew.x.value(0, 2, 0, 0), 1);
    }

    private static void giver() {
        CHECKS.sentence("Promise 14", "The GIVER of the latest mend() that told FIELDS; -2 without one; NONE ahead of any (another BOOK leaves it)");
        UNTOLD.quiet("giver() ahead of any", CountOffice::giver, -1);
        BUSY.quiet("giver()", CountOffice::giver, 0);
        Desk desk = mended(NEAR, new int[] {0, 1, 1}, new int[] {2, 2, 1}, new int[] {0, 1, 2});
        CountOffice x = desk.x;
        x.mend(1);
        CHECKS.due("behind one that told none", x.giver(), -1);
        x.mend(0);
        CHECKS.due("behind one that told FIELDS", x.giver(), 1);
        x.mend(0);
        x.mend(9);
        CHECKS.due("behind one refused", x.giver(), 1);
        x.withdraw(0);
        x.withdraw(1);
        CHECKS.due("though it is WITHDRAWN", x.giver(), 1);
        x.mend(2);
        CHECKS.due("without one", x.giver(), -2);
        desk.book("field");
        CHECKS.due("behind a text with a FAULT", x.giver(), -2);
        desk.book("field a top 1 cost 1; never a < 2");
        CHECKS.due("another BOOK leaves it", x.giver(), -2);
        desk.row(0);
        CHECKS.dueWith(x, "mend(0) without a way", x.mend(0), -1, 6);
        CHECKS.due("it told no FIELDS", x.giver(), -2);
    }

    private static void lots() {
        CHECKS.sentence("Term II", "by a LOT (0 .. 999)");
        for (int lot : new int[] {0, 1, 998, 999}) {
            Desk desk = fillable();
            CHECKS.dueWith(desk.x, "fill(0, " + lot + ")", desk.x.fill(0, lot), 5, 0);
        }
        Twins gaps = new Twins(CHECKS, RowBoundTests::fillable);
        for (int lot : new int[] {-1, 1000, LOWEST, HIGHEST}) {
            gaps.none("fill(0, " + lot + ")", x -> x.fill(0, lot), 2);
            BUSY.none("fill(0, " + lot + "): 2 comes ahead of 5", x -> x.fill(0, lot), 2);
            BUSY.none("fill(7, " + lot + "): 1 comes ahead of 2", x -> x.fill(7, lot), 1);
        }
    }

    private static void lotsGoRound() {
        CHECKS.sentence("Term II", "FILLING f takes from the one of LOT and f, by how many there are, the rest");
        for (int givers = 1; givers <= 5; givers++) {
            for (int lot : new int[] {0, 1, 4, 997, 999}) {
                Desk desk = Desk.with("field a top 4 cost 1; field b top 4 cost 1");
                desk.row(0, -1);
                for (int v = 0; v < givers; v++) {
                    desk.row(0, 4 - v);
                }
                CHECKS.due("GIVERS", desk.x.fill(0, lot), givers);
                for (int f = 0; f < 5; f++) {
                    CHECKS.due("of " + givers + ", LOT " + lot + ", FILLING " + f, desk.x.value(0, 1, 0, f),
                            4 - (lot + f) % givers);
                }
            }
        }
        Desk most = Desk.with("field a top 4 cost 1; field b top 4 cost 1");
        most.row(0, -1);
        for (int k = 1; k < 60; k++) {
            most.row(0, k % 5);
        }
        CHECKS.due("59 GIVERS", most.x.fill(0, 999), 59);
        for (int f = 0; f < 5; f++) {
            // 999 by 59 leaves 55: the ROW 56 and those behind it, and then the ROW 1.
            CHECKS.due("FILLING " + f, most.x.value(0, 1, 0, f), f < 4 ? (56 + f) % 5 : 1);
        }
    }

    private static void filledOnce() {
        CHECKS.sentence("Promise 15", "A ROW is FILLED: how many GIVERS; 5 (FILLED already)");
        Twins filled = new Twins(CHECKS, () -> {
            Desk desk = fillable();
            desk.x.fill(0, 3);
            return desk;
        });
        filled.none("fill(0, 0) again", x -> x.fill(0, 0), 5);
        Desk desk = fillable();
        desk.x.fill(0, 3);
        desk.x.pass(1);
        CHECKS.dueWith(desk.x, "fill(0, 0) a DAY later", desk.x.fill(0, 0), -1, 5);
        CHECKS.due("of(0, 4)", desk.x.of(0, 4), 0);
        CHECKS.due("value(0, 1, 1, 0)", desk.x.value(0, 1, 1, 0), 3);
        CHECKS.due("count(7)", desk.x.count(7), 1);
    }

    private static void fillIsRefused() {
        CHECKS.sentence("Promise 15", "NONE: 1; 2; 5 (no GAPS, BROKEN, WITHDRAWN, FILLED already); 6");
        for (int row : new int[] {-1, 7, 60, LOWEST, HIGHEST}) {
            BUSY.none("fill(" + row + ", 0)", x -> x.fill(row, 0), 1);
        }
        UNTOLD.none("fill(0, 0) without a BOOK", x -> x.fill(0, 0), 1);
        BUSY.none("fill(0, 0): no GAPS", x -> x.fill(0, 0), 5);
        BUSY.none("fill(6, 0): BROKEN, no GAPS", x -> x.fill(6, 0), 5);
        BUSY.none("fill(2, 0): FILLED already", x -> x.fill(2, 0), 5);
        Twins broken = new Twins(CHECKS, () -> mended("field a top 2 cost 1; field b top 2 cost 1; never a = 1",
                new int[] {1, -1}, new int[] {0, 0}, new int[] {0, -1}));
        broken.none("fill(0, 0): BROKEN, a GAP", x -> x.fill(0, 0), 5);
        Twins gone = new Twins(CHECKS, () -> {
            Desk desk = fillable();
            desk.x.withdraw(0);
            return desk;
        });
        gone.none("fill(0, 0): WITHDRAWN", x -> x.fill(0, 0), 5);
        Twins lonely = new Twins(CHECKS, () -> mended("field a top 2 cost 1; field b top 2 cost 1", new int[] {0, -1}));
        lonely.none("fill(0, 0): no GIVER", x -> x.fill(0, 0), 6);
        Desk desk = Lands.busy();
        CHECKS.dueWith(desk.x, "fill(5, 0): one GAP, THERE, not BROKEN", desk.x.fill(5, 0), 1, 0);
    }

    private static final String WHOLE = "field a top 3 cost 1; field b top 3 cost 1; field c top 3 cost 1";

    private static void fills(String why, Desk desk, int givers) {
        CHECKS.dueWith(desk.x, "fill(0, 0): " + why, desk.x.fill(0, 0), givers == 0 ? -1 : givers, givers == 0 ? 6 : 0);
    }

    private static void fillGivers() {
        CHECKS.sentence("Term II", "GIVERS: all other ROWS that are THERE, not BROKEN, without GAPS, whose VALUES put in the GAPS let no TEST hold");
        int[] row = {1, -1, 1};
        fills("no other ROW", mended(WHOLE, row), 0);
        fills("another one", mended(WHOLE, row, new int[] {1, 2, 1}), 1);
        Desk gone = mended(WHOLE, row, new int[] {1, 2, 1});
        gone.x.withdraw(1);
        fills("WITHDRAWN", gone, 0);
        String rule = WHOLE + "; never c = 3";
        fills("BROKEN", mended(rule, row, new int[] {1, 2, 3}), 0);
        fills("not BROKEN", mended(rule, row, new int[] {1, 2, 2}), 1);
        fills("a GAP in the FIELD", mended(WHOLE, row, new int[] {1, -1, 1}), 0);
        fills("a GAP in another one", mended(WHOLE, row, new int[] {1, 2, -1}), 0);
        fills("a GAP in the first one", mended(WHOLE, row, new int[] {-1, 2, 1}), 0);
        String pair = WHOLE + "; never a = 1 and b = 2";
        fills("its VALUE lets a TEST hold", mended(pair, row, new int[] {0, 2, 1}), 0);
        fills("its VALUE doesn't", mended(pair, row, new int[] {0, 1, 1}), 1);
        Desk filled = mended(WHOLE, new int[] {1, -1, 1}, new int[] {1, -1, 1}, new int[] {1, 2, 1});
        filled.x.fill(1, 0);
        fills("a FILLED one, too", filled, 2);
    }

    private static void fillLikeOnes() {
        CHECKS.sentence("Term II", "of these those that are unlike it in the fewest of the other FIELDS, by numbers");
        int[] row = {1, -1, 1};
        Desk desk = mended(WHOLE, row, new int[] {1, 3, 0}, new int[] {1, 2, 1}, new int[] {0, 1, 0}, new int[] {1, 0, 1});
        fills("two are like it", desk, 2);
        CHECKS.due("by numbers: FILLING 0", desk.x.value(0, 1, 0, 0), 2);
        CHECKS.due("FILLING 1", desk.x.value(0, 1, 0, 1), 0);
        Desk far = mended(WHOLE, row, new int[] {0, 3, 0}, new int[] {1, 2, 0}, new int[] {0, 1, 1}, new int[] {2, 0, 2});
        fills("two are unlike it in one", far, 2);
        CHECKS.due("FILLING 0", far.x.value(0, 1, 0, 0), 2);
        CHECKS.due("FILLING 1", far.x.value(0, 1, 0, 1), 1);
        Desk farther = mended(WHOLE, row, new int[] {0, 3, 0}, new int[] {2, 2, 2});
        fills("two are unlike it in two", farther, 2);
        Desk gaps = mended(WHOLE, new int[] {-1, -1, -1}, new int[] {0, 3, 0}, new int[] {2, 2, 2});
        fills("all GAPS: no other FIELD", gaps, 2);
        CHECKS.due("all of one GIVER", gaps.x.value(0, 0, 0, 1) * 100 + gaps.x.value(0, 1, 0, 1) * 10
                + gaps.x.value(0, 2, 0, 1), 222);
    }

    private static void days() {
        CHECKS.sentence("Term II and promise 16", "DAYS 0 .. 999; 0 at first; So many DAYS go by (1 .. 100): the DAY");
        Desk desk = Lands.bare();
        CountOffice x = desk.x;
        CHECKS.due("at first", x.count(4), 0);
        CHECKS.dueWith(x, "pass(1)", x.pass(1), 1, 0);
        CHECKS.dueWith(x, "pass(100)", x.pass(100), 101, 0);
        CHECKS.dueWith(x, "pass(101)", x.pass(101), -1, 2);
        CHECKS.dueWith(x, "pass(0)", x.pass(0), -1, 2);
        for (int k = 2; k <= 9; k++) {
            CHECKS.due("pass(100)", x.pass(100), 100 * k + 1);
        }
        CHECKS.dueWith(x, "pass(99) to DAY 1,000", x.pass(99), -1, 2);
        CHECKS.due("count(4)", x.count(4), 901);
        CHECKS.dueWith(x, "pass(98) to DAY 999", x.pass(98), 999, 0);
        CHECKS.dueWith(x, "pass(1) to DAY 1,000", x.pass(1), -1, 2);
        CHECKS.due("count(4)", x.count(4), 999);
        desk.table("count");
        desk.row(0, 0, 0);
        CHECKS.due("a ROW of DAY 999", x.value(0, 0, 999, 0), 0);
        CHECKS.due("its FIGURE", x.figure(0, 0, 0, 999, 0), 1);
        CHECKS.due("no DAY 1,000", x.value(0, 0, 1000, 0), -2);
        CHECKS.dueWith(x, "no DAY 1,000", x.figure(0, 0, 0, 1000, 0), Checks.NO_FIGURE, 2);
        CHECKS.due("another BOOK", desk.book(Lands.BOOK), 3);
        CHECKS.due("DAY 0", x.count(4), 0);
    }

    private static void passIsRefused() {
        CHECKS.sentence("Promise 16", "NONE: 1 (no BOOK); 2 (also beyond 999)");
        for (int days : new int[] {0, -1, 101, 1000, LOWEST, HIGHEST}) {
            BUSY.none("pass(" + days + ")", x -> x.pass(days), 2);
            UNTOLD.none("pass(" + days + ") without a BOOK: 1 comes ahead of 2", x -> x.pass(days), 1);
        }
        UNTOLD.none("pass(1) without a BOOK", x -> x.pass(1), 1);
        Twins late = new Twins(CHECKS, () -> {
            Desk desk = Lands.busy();
            for (int k = 0; k < 9; k++) {
                desk.x.pass(100);
            }
            return desk;
        });
        late.none("pass(95) from DAY 905", x -> x.pass(95), 2);
        Desk desk = Lands.busy();
        CHECKS.dueWith(desk.x, "pass(100)", desk.x.pass(100), 105, 0);
    }
}
