/** Promises 17 to 23: figures. */
public final class FigureTests {
    private static final long NO = Checks.NO_FIGURE;
    private static final Checks CHECKS = new Checks("FigureTests");

    public static void main(String[] args) {
        figure();
        figureOfTests();
        figureIsRefused();
        figureOfDays();
        span();
        far();
        known();
        agreed();
        agreedAddsFractions();
        group();
        groupOfTheLastValue();
        small();
        smallIsRefused();
        CHECKS.close();
    }

    private static Desk land() {
        Desk desk = Desk.with("field a top 2 cost 1; field b top 3 cost 1; field c top 1 cost 1; never a = 2 and b = 3");
        desk.row(0, 1, 0);
        desk.row(0, 3, 1);
        desk.row(1, 0, 1);
        desk.row(2, 3, 1);
        desk.row(1, -1, 0);
        desk.row(-1, 2, -1);
        for (int row = 0; row < 6; row++) {
            desk.x.weight(row, row + 1);
        }
        return desk;
    }

    private static void figure() {
        CHECKS.promise(17, "figure");
        Desk desk = land();
        CountOffice x = desk.x;
        desk.table("count");
        desk.table("sum b");
        desk.table("count by a");
        desk.table("sum b by a, c");
        desk.table("count where b > a");
        desk.table("sum a by c where b < 3 and c < 1");
        desk.table("count by c, a");
        CHECKS.dueWith(x, "all but the BROKEN one", x.figure(0, 0, 0, 0, 0), 1 + 2 + 3 + 5 + 6, 0);
        CHECKS.due("WEIGHT times VALUE", x.figure(1, 0, 0, 0, 0), 1 + 2 * 3 + 6 * 2);
        CHECKS.due("a = 0", x.figure(2, 0, 0, 0, 0), 3);
        CHECKS.due("a = 1", x.figure(2, 1, 0, 0, 0), 8);
        CHECKS.due("a = 2, BROKEN", x.figure(2, 2, 0, 0, 0), 0);
        CHECKS.due("a = 0, c = 1", x.figure(3, 0, 1, 0, 0), 6);
        CHECKS.due("a = 1, c = 0: a GAP to sum", x.figure(3, 1, 0, 0, 0), 0);
        CHECKS.due("where, a GAP doesn't hold", x.figure(4, 0, 0, 0, 0), 1 + 2);
        CHECKS.due("sum where", x.figure(5, 0, 0, 0, 0), 0);
        CHECKS.due("the second by", x.figure(6, 0, 1, 0, 0), 5);
        CHECKS.due("the second by", x.figure(6, 1, 0, 0, 0), 2);
        Desk most = Desk.with("field a top 9 cost 1");
        most.table("sum a");
        for (int k = 0; k < 60; k++) {
            most.row(9);
            most.x.weight(k, 99);
        }
        CHECKS.due("the most", most.x.figure(0, 0, 0, 0, 0), 60 * 99 * 9);
    }

    private static void holds(String test, int... due) {
        Desk desk = Desk.with("field a top 2 cost 1; field b top 2 cost 1");
        desk.table("count by a, b where " + test);
        for (int k = 0; k < 9; k++) {
            desk.row(k / 3, k % 3);
        }
        desk.row(-1, 1);
        desk.row(1, -1);
        desk.row(-1, -1);
        for (int k = 0; k < 9; k++) {
            CHECKS.due(test + " with " + k / 3 + " and " + k % 3, desk.x.figure(0, k / 3, k % 3, 0, 0), due[k]);
        }
        Desk rule = Desk.with("field a top 2 cost 1; field b top 2 cost 1; never " + test);
        for (int k = 0; k < 9; k++) {
            rule.row(k / 3, k % 3);
            CHECKS.due("never " + test + " with " + k / 3 + " and " + k % 3, rule.x.of(k, 1), due[k]);
        }
    }

    private static void figureOfTests() {
        CHECKS.promise(17, "figure: TESTS");
        holds("a = 1", 0, 0, 0, 1, 1, 1, 0, 0, 0);
        holds("a < 1", 1, 1, 1, 0, 0, 0, 0, 0, 0);
        holds("a > 1", 0, 0, 0, 0, 0, 0, 1, 1, 1);
        holds("a < 99", 1, 1, 1, 1, 1, 1, 1, 1, 1);
        holds("a > 0000", 0, 0, 0, 1, 1, 1, 1, 1, 1);
        holds("a = b", 1, 0, 0, 0, 1, 0, 0, 0, 1);
        holds("a < b", 0, 1, 1, 0, 0, 1, 0, 0, 0);
        holds("a > b", 0, 0, 0, 1, 0, 0, 1, 1, 0);
        holds("b > a and b < 2", 0, 1, 0, 0, 0, 0, 0, 0, 0);
        holds("a = a", 1, 1, 1, 1, 1, 1, 1, 1, 1);
    }

    private static void figureIsRefused() {
        CHECKS.promise(17, "figure is refused");
        Desk desk = land();
        CountOffice x = desk.x;
        desk.table("count");
        desk.table("count by a");
        desk.table("count by a, b");
        x.pass(4);
        CHECKS.dueWith(x, "figure(3, 0, 0, 0, 0)", x.figure(3, 0, 0, 0, 0), NO, 1);
        CHECKS.dueWith(x, "figure(-1, 0, 0, 0, 0)", x.figure(-1, 0, 0, 0, 0), NO, 1);
        CHECKS.dueWith(x, "figure(0, 1, 0, 0, 0)", x.figure(0, 1, 0, 0, 0), NO, 1);
        CHECKS.dueWith(x, "figure(0, 0, 1, 0, 0)", x.figure(0, 0, 1, 0, 0), NO, 1);
        CHECKS.dueWith(x, "figure(1, 3, 0, 0, 0)", x.figure(1, 3, 0, 0, 0), NO, 1);
        CHECKS.dueWith(x, "figure(1, -1, 0, 0, 0)", x.figure(1, -1, 0, 0, 0), NO, 1);
        CHECKS.dueWith(x, "figure(1, 0, 1, 0, 0)", x.figure(1, 0, 1, 0, 0), NO, 1);
        CHECKS.dueWith(x, "figure(2, 2, 4, 0, 0)", x.figure(2, 2, 4, 0, 0), NO, 1);
        CHECKS.dueWith(x, "figure(2, 2, -1, 0, 0)", x.figure(2, 2, -1, 0, 0), NO, 1);
        CHECKS.dueWith(x, "figure(2, 2, 3, 4, 4)", x.figure(2, 2, 3, 4, 4), 0, 0);
        CHECKS.dueWith(x, "figure(0, 0, 0, 5, 0)", x.figure(0, 0, 0, 5, 0), NO, 2);
        CHECKS.dueWith(x, "figure(0, 0, 0, -1, 0)", x.figure(0, 0, 0, -1, 0), NO, 2);
        CHECKS.dueWith(x, "figure(0, 0, 0, 0, 5)", x.figure(0, 0, 0, 0, 5), NO, 2);
        CHECKS.dueWith(x, "figure(0, 0, 0, 0, -1)", x.figure(0, 0, 0, 0, -1), NO, 2);
        CHECKS.dueWith(x, "1 comes ahead of 2", x.figure(0, 0, 1, 9, 9), NO, 1);
    }

    private static void figureOfDays() {
        CHECKS.promise(17, "figure as of a DAY");
        Desk desk = Desk.with("field a top 2 cost 1; field b top 2 cost 9; never a = b");
        CountOffice x = desk.x;
        desk.table("count");
        desk.table("sum b by a");
        desk.row(0, 2);
        desk.row(1, 1);
        desk.row(0, -1);
        x.pass(1);
        desk.row(0, 1);
        x.pass(1);
        x.mend(1);
        x.pass(1);
        x.fill(2, 0);
        x.pass(1);
        x.withdraw(0);
        long[] counts = {2, 3, 4, 4, 3};
        long[] sums = {2, 3, 4, 6, 4};
        for (int day = 0; day <= 4; day++) {
            CHECKS.due("count, DAY " + day, x.figure(0, 0, 0, day, 0), counts[day]);
            CHECKS.due("sum, DAY " + day, x.figure(1, 0, 0, day, 0), sums[day]);
        }
        CHECKS.due("sum by FILLING 1, DAY 3", x.figure(1, 0, 0, 3, 1), 5);
        CHECKS.due("sum by FILLING 2, DAY 3", x.figure(1, 0, 0, 3, 2), 5);
        CHECKS.due("sum by FILLING 3, DAY 3", x.figure(1, 0, 0, 3, 3), 6);
        x.weight(3, 10);
        CHECKS.due("WEIGHTS are what they are now", x.figure(0, 0, 0, 1, 0), 12);
    }

    private static void span() {
        CHECKS.promise(18, "span");
        Desk desk = Desk.with("field a top 1 cost 1; field b top 3 cost 1");
        CountOffice x = desk.x;
        desk.table("sum b by a");
        desk.table("count");
        desk.row(0, 3);
        desk.row(0, 1);
        desk.row(0, 0);
        desk.row(1, 2);
        desk.row(0, -1);
        x.weight(4, 10);
        CHECKS.dueWith(x, "without FILLINGS", x.span(0, 0, 0, true), 4, 0);
        x.pass(1);
        CHECKS.due("fill(4, 1)", x.fill(4, 1), 3);
        CHECKS.due("the least", x.span(0, 0, 0, false), 4);
        CHECKS.due("the most", x.span(0, 0, 0, true), 34);
        CHECKS.due("FILLING 0", x.figure(0, 0, 0, 1, 0), 14);
        CHECKS.due("another CELL", x.span(0, 1, 0, true), 2);
        CHECKS.due("a count", x.span(1, 0, 0, false), 14);
        CHECKS.dueWith(x, "span(2, 0, 0, true)", x.span(2, 0, 0, true), NO, 1);
        CHECKS.dueWith(x, "span(0, 2, 0, true)", x.span(0, 2, 0, true), NO, 1);
        CHECKS.dueWith(x, "span(0, 0, 1, false)", x.span(0, 0, 1, false), NO, 1);
        CHECKS.dueWith(x, "span(1, 0, -1, false)", x.span(1, 0, -1, false), NO, 1);
    }

    private static void far() {
        CHECKS.promise(19, "far");
        Desk desk = Desk.with("field a top 3 cost 1");
        CountOffice x = desk.x;
        desk.table("sum a");
        desk.table("count by a");
        desk.row(3);
        x.pass(2);
        desk.row(2);
        x.withdraw(0);
        CHECKS.dueWith(x, "the second less the first", x.far(0, 0, 0, 0, 2), -1, 0);
        CHECKS.due("the other way round", x.far(0, 0, 0, 2, 1), 1);
        CHECKS.due("of the same DAY", x.far(0, 0, 0, 1, 1), 0);
        CHECKS.due("of a CELL", x.far(1, 2, 0, 0, 2), 1);
        CHECKS.dueWith(x, "far(2, 0, 0, 0, 0)", x.far(2, 0, 0, 0, 0), NO, 1);
        CHECKS.dueWith(x, "far(1, 4, 0, 0, 0)", x.far(1, 4, 0, 0, 0), NO, 1);
        CHECKS.dueWith(x, "far(0, 0, 0, 3, 0)", x.far(0, 0, 0, 3, 0), NO, 2);
        CHECKS.dueWith(x, "far(0, 0, 0, 0, 3)", x.far(0, 0, 0, 0, 3), NO, 2);
        CHECKS.dueWith(x, "far(0, 0, 0, -1, 0)", x.far(0, 0, 0, -1, 0), NO, 2);
        CHECKS.dueWith(x, "far(0, 1, 0, -1, 0)", x.far(0, 1, 0, -1, 0), NO, 1);
    }

    private static void known() {
        CHECKS.promise(20, "known");
        Desk desk = Desk.with("field a top 2 cost 1; field b top 1 cost 1; field c top 3 cost 1");
        CountOffice x = desk.x;
        desk.table("count");
        desk.row(0, 0, 0);
        desk.row(1, 1, 0);
        CHECKS.dueWith(x, "known(3, 0, 0)", x.known(3, 0, 0), false, 1);
        CHECKS.dueWith(x, "known(-1, 0, 0)", x.known(-1, 0, 0), false, 1);
        CHECKS.dueWith(x, "known(1, 2, 0)", x.known(1, 2, 0), false, 1);
        CHECKS.dueWith(x, "known(1, -1, 0)", x.known(1, -1, 0), false, 1);
        CHECKS.dueWith(x, "known(0, 0, -1)", x.known(0, 0, -1), false, 2);
        CHECKS.dueWith(x, "known(0, 0, 1000001)", x.known(0, 0, 1000001), false, 2);
        CHECKS.dueWith(x, "known(2, 0, 1000001): a number comes ahead", x.known(2, 0, 1000001), false, 2);
        CHECKS.dueWith(x, "known(2, 0, 5)", x.known(2, 0, 5), false, 5);
        CHECKS.dueWith(x, "known(2, 4, 5)", x.known(2, 4, 5), false, 1);
        CHECKS.dueWith(x, "nothing is AGREED yet", x.agreed(0, 0, 0, false), NO, 5);
        CHECKS.dueWith(x, "known(0, 0, 0)", x.known(0, 0, 0), true, 0);
        CHECKS.dueWith(x, "agreed", x.agreed(0, 0, 0, false), 0, 0);
        CHECKS.due("denominator", x.agreed(0, 0, 0, true), 1);
        CHECKS.due("known(0, 2, 1000000)", x.known(0, 2, 1000000), true);
        CHECKS.due("known(0, 1, 70)", x.known(0, 1, 70), true);
        CHECKS.due("known(0, 0, 5)", x.known(0, 0, 5), true);
        CHECKS.due("agreed", x.agreed(0, 0, 0, false), 75);
        CHECKS.due("known(0, 0, 6): told again", x.known(0, 0, 6), true);
        CHECKS.due("agreed", x.agreed(0, 0, 0, false), 76);
        CHECKS.due("known(1, 1, 8): another FIELD", x.known(1, 1, 8), true);
        CHECKS.due("agreed", x.agreed(0, 0, 0, false), 8);
        CHECKS.due("known(2, 0, 8)", x.known(2, 0, 8), false);
        CHECKS.due("agreed as it was", x.agreed(0, 0, 0, false), 8);
        CHECKS.due("known(0, 0, 3): sums told ahead are 0", x.known(0, 0, 3), true);
        CHECKS.due("agreed", x.agreed(0, 0, 0, false), 3);
    }

    private static void agreed() {
        CHECKS.promise(21, "agreed");
        Desk desk = Desk.with("field a top 2 cost 1; field b top 3 cost 1; never b = 0");
        CountOffice x = desk.x;
        desk.table("count by b");
        desk.table("sum b");
        desk.table("count where b < 3");
        desk.row(0, 1);
        desk.row(0, 2);
        desk.row(1, 1);
        desk.row(1, 0);
        desk.row(-1, 1);
        desk.row(0, -1);
        x.weight(0, 2);
        x.weight(1, 4);
        x.weight(2, 3);
        x.weight(3, 50);
        x.known(0, 0, 10);
        x.known(0, 1, 20);
        x.known(0, 2, 30);
        CHECKS.dueWith(x, "b = 1: 2 * 10 / 7 and 20", x.agreed(0, 1, 0, false), 160, 0);
        CHECKS.due("denominator", x.agreed(0, 1, 0, true), 7);
        CHECKS.due("b = 2: 4 * 10 / 7", x.agreed(0, 2, 0, false), 40);
        CHECKS.due("denominator", x.agreed(0, 2, 0, true), 7);
        CHECKS.due("b = 3", x.agreed(0, 3, 0, false), 0);
        CHECKS.due("denominator", x.agreed(0, 3, 0, true), 1);
        CHECKS.due("sum: 2 * 10 / 7, 8 * 10 / 7, 20", x.agreed(1, 0, 0, false), 240);
        CHECKS.due("denominator", x.agreed(1, 0, 0, true), 7);
        x.weight(5, 2);
        CHECKS.due("in lowest terms: 6 * 10 / 8 and 20", x.agreed(2, 0, 0, false), 55);
        CHECKS.due("denominator", x.agreed(2, 0, 0, true), 2);
        x.withdraw(1);
        CHECKS.due("without a WITHDRAWN one: 2 * 10 / 4 and 20", x.agreed(2, 0, 0, false), 25);
        CHECKS.due("denominator", x.agreed(2, 0, 0, true), 1);
        CHECKS.dueWith(x, "agreed(3, 0, 0, true)", x.agreed(3, 0, 0, true), NO, 1);
        CHECKS.dueWith(x, "agreed(0, 4, 0, true)", x.agreed(0, 4, 0, true), NO, 1);
        CHECKS.dueWith(x, "agreed(0, 0, 1, true)", x.agreed(0, 0, 1, true), NO, 1);
        desk.book("field a top 1 cost 1");
        desk.table("count");
        CHECKS.dueWith(x, "1 comes ahead of 5", x.agreed(1, 0, 0, true), NO, 1);
        CHECKS.dueWith(x, "nothing is AGREED", x.agreed(0, 0, 0, true), NO, 5);
    }

    private static void agreedAddsFractions() {
        CHECKS.promise(21, "agreed: great fractions");
        Desk desk = Desk.with("field a top 2 cost 1; field b top 9 cost 1");
        CountOffice x = desk.x;
        desk.table("sum b");
        long[] all = new long[3];
        long[] ours = new long[3];
        for (int k = 0; k < 60; k++) {
            int b = k % 4 == 0 ? 9 : -1;
            desk.row(k % 3, b);
            int w = 99 - k % 5 - k % 3;
            x.weight(k, w);
            all[k % 3] += w;
            ours[k % 3] += b == 9 ? 9L * w : 0;
        }
        x.known(0, 0, 1000000);
        x.known(0, 1, 999983);
        x.known(0, 2, 999979);
        java.math.BigInteger top = big(ours[0] * 1000000).multiply(big(all[1] * all[2]))
                .add(big(ours[1] * 999983).multiply(big(all[0] * all[2])))
                .add(big(ours[2] * 999979).multiply(big(all[0] * all[1])));
        java.math.BigInteger bottom = big(all[0] * all[1] * all[2]);
        java.math.BigInteger common = top.gcd(bottom);
        CHECKS.due("numerator", x.agreed(0, 0, 0, false), top.divide(common).longValueExact());
        CHECKS.due("denominator", x.agreed(0, 0, 0, true), bottom.divide(common).longValueExact());
    }

    private static java.math.BigInteger big(long v) {
        return java.math.BigInteger.valueOf(v);
    }

    private static void group() {
        CHECKS.promise(22, "group");
        Desk desk = Desk.with("field a top 3 cost 1; field b top 1 cost 1");
        CountOffice x = desk.x;
        desk.table("count where b = 1");
        desk.row(0, 1);
        desk.row(1, 0);
        desk.row(2, 1);
        desk.row(3, 0);
        CHECKS.due("all of GROUP 0", x.small(0, 0, 0, 2), 333);
        CHECKS.dueWith(x, "group(0, 1, 9)", x.group(0, 1, 9), true, 0);
        CHECKS.due("without 1", x.small(0, 0, 0, 2), 500);
        CHECKS.due("alone", x.small(0, 0, 1, 2), 0);
        CHECKS.due("group(0, 3, 9)", x.group(0, 3, 9), true);
        CHECKS.due("without 1 and 3", x.small(0, 0, 0, 2), 1000);
        CHECKS.due("of another FIELD", x.group(1, 1, 9), true);
        CHECKS.due("without 1 and 3", x.small(0, 0, 0, 2), 1000);
        CHECKS.due("group(0, 1, 0)", x.group(0, 1, 0), true);
        CHECKS.due("without 3", x.small(0, 0, 0, 2), 500);
        CHECKS.dueWith(x, "group(2, 0, 0)", x.group(2, 0, 0), false, 1);
        CHECKS.dueWith(x, "group(-1, 0, 0)", x.group(-1, 0, 0), false, 1);
        CHECKS.dueWith(x, "group(0, 4, 0)", x.group(0, 4, 0), false, 1);
        CHECKS.dueWith(x, "group(0, -1, 0)", x.group(0, -1, 0), false, 1);
        CHECKS.dueWith(x, "group(0, 0, 10)", x.group(0, 0, 10), false, 2);
        CHECKS.dueWith(x, "group(0, 0, -1)", x.group(0, 0, -1), false, 2);
        CHECKS.dueWith(x, "group(0, 4, 10)", x.group(0, 4, 10), false, 1);
    }

    private static void groupOfTheLastValue() {
        CHECKS.promise(22, "group of the first and the last VALUE");
        Desk desk = Desk.with("field a top 9 cost 1; field b top 1 cost 1; field c top 1 cost 1; field d top 1 cost 1;"
                + "field e top 1 cost 1; field f top 9 cost 1");
        CountOffice x = desk.x;
        desk.table("count where b = 1");
        desk.row(0, 1, 0, 0, 0, 9);
        desk.row(1, 0, 0, 0, 0, 8);
        desk.row(9, 0, 0, 0, 0, 0);
        CHECKS.due("group(5, 9, 7)", x.group(5, 9, 7), true);
        CHECKS.due("without the last", x.small(0, 5, 8, 2), 0);
        CHECKS.due("group(5, 8, 7)", x.group(5, 8, 7), true);
        CHECKS.due("with the last", x.small(0, 5, 8, 2), 1000);
        CHECKS.due("of the first FIELD", x.small(0, 0, 9, 2), 500);
        CHECKS.due("group(0, 0, 1)", x.group(0, 0, 1), true);
        CHECKS.due("without the first", x.small(0, 0, 9, 2), 0);
        CHECKS.due("group(0, 9, 1)", x.group(0, 9, 1), true);
        CHECKS.due("with the first", x.small(0, 0, 9, 2), 1000);
    }

    private static void small() {
        CHECKS.promise(23, "small");
        Desk desk = Desk.with("field a top 3 cost 1; field b top 2 cost 1; never b = 2");
        CountOffice x = desk.x;
        desk.table("count where b = 1");
        desk.table("sum b");
        desk.rows(2, 0, 1);
        desk.rows(5, 0, 0);
        desk.rows(1, 0, -1);
        desk.rows(1, 0, 2);
        desk.rows(3, 1, 1);
        desk.rows(4, 2, 0);
        desk.rows(1, 3, 1);
        desk.rows(1, -1, 1);
        x.group(0, 3, 1);
        x.weight(0, 99);
        CHECKS.dueWith(x, "OWN: 2 of 8", x.small(0, 0, 0, 1), 250, 0);
        CHECKS.due("LIKE: 3 of 7", x.small(0, 0, 0, 2), 428);
        CHECKS.due("PART: 8 of 18", x.small(0, 0, 0, 3), 444);
        CHECKS.due("JOINED", x.small(0, 0, 0, 0), (250 * 444 + 428 * 556) / 1000);
        CHECKS.due("without where all hold", x.small(1, 0, 0, 1), 1000);
        CHECKS.due("LIKE of the lone one", x.small(0, 0, 3, 2), 0);
        CHECKS.due("OWN of the lone one", x.small(0, 0, 3, 1), 1000);
        CHECKS.due("JOINED of the lone one: 1 of 11", x.small(0, 0, 3, 0), 90);
        x.set(2, 1);
        CHECKS.due("PART, M 1: 8 of 9", x.small(0, 0, 0, 3), 888);
        x.set(2, 99);
        CHECKS.due("PART, M 99: 8 of 107", x.small(0, 0, 0, 3), 74);
        x.pass(1);
        x.withdraw(0);
        CHECKS.due("WITHDRAWN: 1 of 7", x.small(0, 0, 0, 1), 142);
        CHECKS.due("of another FIELD: b = 2 is BROKEN", x.small(0, 1, 2, 3), 0);
        CHECKS.due("OWN without ROWS", x.small(0, 1, 2, 1), 0);
        CHECKS.due("LIKE: 6 of 15", x.small(0, 1, 2, 2), 400);
    }

    private static void smallIsRefused() {
        CHECKS.promise(23, "small is refused");
        Desk desk = Desk.with("field a top 3 cost 1");
        CountOffice x = desk.x;
        desk.table("count");
        desk.table("count by a");
        CHECKS.dueWith(x, "small(2, 0, 0, 0)", x.small(2, 0, 0, 0), -1, 1);
        CHECKS.dueWith(x, "small(-1, 0, 0, 0)", x.small(-1, 0, 0, 0), -1, 1);
        CHECKS.dueWith(x, "small(0, 1, 0, 0)", x.small(0, 1, 0, 0), -1, 1);
        CHECKS.dueWith(x, "small(0, -1, 0, 0)", x.small(0, -1, 0, 0), -1, 1);
        CHECKS.dueWith(x, "small(0, 0, 4, 0)", x.small(0, 0, 4, 0), -1, 1);
        CHECKS.dueWith(x, "small(0, 0, -1, 0)", x.small(0, 0, -1, 0), -1, 1);
        CHECKS.dueWith(x, "small(0, 0, 0, 4)", x.small(0, 0, 0, 4), -1, 1);
        CHECKS.dueWith(x, "small(0, 0, 0, -1)", x.small(0, 0, 0, -1), -1, 1);
        CHECKS.dueWith(x, "small(1, 0, 0, 9): 1 comes ahead of 5", x.small(1, 0, 0, 9), -1, 1);
        CHECKS.dueWith(x, "small(1, 0, 0, 0)", x.small(1, 0, 0, 0), -1, 5);
        CHECKS.dueWith(x, "small(0, 0, 0, 0)", x.small(0, 0, 0, 0), 0, 0);
    }
}
