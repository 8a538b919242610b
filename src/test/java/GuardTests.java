/** Promises 24 to 32: guarded. */
public final class GuardTests {
    private static final long NO = Checks.NO_FIGURE;
    private static final Checks CHECKS = new Checks("GuardTests");

    public static void main(String[] args) {
        set();
        shy();
        edge();
        edgeIsRefused();
        edgeOfManyCells();
        wide();
        least();
        leastTies();
        leastIsRefused();
        differing();
        lot();
        noise();
        noiseOfCells();
        led();
        CHECKS.close();
    }

    private static Desk squares(int[][] counts) {
        return Lands.squares(counts);
    }

    private static void set() {
        CHECKS.promise(24, "set");
        Desk desk = squares(new int[][] {{1, 2}, {3, 4}});
        CountOffice x = desk.x;
        int[] least = {1, 1, 1, 0};
        int[] most = {20, 50, 99, 1000};
        for (int what = 0; what < 4; what++) {
            CHECKS.dueWith(x, "set(" + what + ", least - 1)", x.set(what, least[what] - 1), false, 2);
            CHECKS.dueWith(x, "set(" + what + ", most + 1)", x.set(what, most[what] + 1), false, 2);
            CHECKS.dueWith(x, "set(" + what + ", most)", x.set(what, most[what]), true, 0);
            CHECKS.dueWith(x, "set(" + what + ", least)", x.set(what, least[what]), true, 0);
        }
        CHECKS.dueWith(x, "set(4, 1)", x.set(4, 1), false, 1);
        CHECKS.dueWith(x, "set(-1, 1)", x.set(-1, 1), false, 1);
        CHECKS.dueWith(x, "set(2147483647, -1)", x.set(2147483647, -1), false, 1);
        x.set(0, 3);
        CHECKS.due("MIN 3", x.shy(0), 2);
        x.set(0, 30);
        CHECKS.due("MIN stays", x.shy(0), 2);
        x.set(0, 4);
        CHECKS.due("MIN 4", x.shy(0), 3);
        x.set(3, 17);
        CHECKS.due("BUDGET", x.count(9), 17);
        x.set(3, 1001);
        CHECKS.due("BUDGET stays", x.count(9), 17);
        CountOffice bare = new CountOffice();
        CHECKS.dueWith(bare, "no BOOK", bare.set(0, 99), false, 1);
    }

    private static void shy() {
        CHECKS.promise(25, "shy");
        Desk desk = Desk.with("field r top 2 cost 1; field c top 1 cost 1; field d top 9 cost 1; never d = 9");
        CountOffice x = desk.x;
        CHECKS.due("count by r, c", desk.table("count by r, c"), 0);
        CHECKS.due("count by r", desk.table("count by r"), 1);
        CHECKS.due("count", desk.table("count"), 2);
        CHECKS.due("sum r by r, c", desk.table("sum r by r, c"), 3);
        CHECKS.due("count by r, c where", desk.table("count by r, c where d > 0"), 4);
        desk.rows(3, 0, 0, 0);
        desk.rows(2, 0, 1, 1);
        desk.rows(1, 1, 0, 1);
        desk.rows(1, 1, 0, 9);
        desk.rows(1, -1, 0, 1);
        desk.rows(1, 2, 0, 0);
        x.weight(0, 99);
        CHECKS.dueWith(x, "1 and 2 are SHY, 0 and 3 are not", x.shy(0), 3, 0);
        CHECKS.due("with where", x.shy(4), 2);
        CHECKS.dueWith(x, "shy(1)", x.shy(1), -1, 5);
        CHECKS.dueWith(x, "shy(2)", x.shy(2), -1, 5);
        CHECKS.dueWith(x, "shy(3)", x.shy(3), -1, 5);
        CHECKS.dueWith(x, "shy(5)", x.shy(5), -1, 1);
        CHECKS.dueWith(x, "shy(-1)", x.shy(-1), -1, 1);
        x.pass(1);
        x.withdraw(0);
        CHECKS.due("as of TODAY", x.shy(0), 4);
        x.set(0, 1);
        CHECKS.due("MIN 1", x.shy(0), 0);
        Desk sixty = Desk.with("field a top 9 cost 1; field b top 5 cost 1; field c top 6 cost 1");
        sixty.table("count by a, b");
        sixty.table("count by a, c");
        CHECKS.dueWith(sixty.x, "60 CELLS", sixty.x.shy(0), 0, 0);
        CHECKS.dueWith(sixty.x, "70 CELLS", sixty.x.shy(1), -1, 5);
    }

    private static void edge() {
        CHECKS.promise(26, "edge");
        CountOffice x = squares(new int[][] {{1, 4, 0}, {3, 2, 5}, {3, 4, 5}}).x;
        CHECKS.dueWith(x, "LOW alone", x.edge(0, 0, 0, 1, false), 1, 0);
        CHECKS.due("HIGH alone", x.edge(0, 0, 0, 1, true), 1);
        long square = 1 | 2 | 8 | 16;
        CHECKS.due("LOW of 1 in 1 4, 3 2", x.edge(0, 0, 0, square, false), 0);
        CHECKS.due("HIGH of 1 in 1 4, 3 2", x.edge(0, 0, 0, square, true), 1 + 3);
        CHECKS.due("LOW of 4", x.edge(0, 0, 1, square, false), 4 - 3);
        CHECKS.due("HIGH of 4", x.edge(0, 0, 1, square, true), 5);
        CHECKS.due("LOW of a 0", x.edge(0, 0, 2, 511, false), 0);
        CHECKS.due("HIGH of a 0: its whole line", x.edge(0, 0, 2, 511, true), 5);
        CHECKS.due("HIGH of the last", x.edge(0, 2, 2, 511, true), 10);
        CHECKS.due("LOW of the last", x.edge(0, 2, 2, 511, false), 0);
        long ring = 1 | 2 | 16 | 32 | 64 | 256;
        CHECKS.due("a circle of six: LOW", x.edge(0, 0, 0, ring, false), 0);
        CHECKS.due("a circle of six: HIGH", x.edge(0, 0, 0, ring, true), 1 + 3);
        CHECKS.due("a circle of six: LOW of what it goes against", x.edge(0, 1, 1, ring, false), 1);
        CHECKS.due("a circle of six: HIGH of that", x.edge(0, 0, 1, ring, true), 5);
        CHECKS.due("no circle", x.edge(0, 0, 0, 1 | 2 | 16 | 32 | 256, true), 1);
    }

    private static void edgeIsRefused() {
        CHECKS.promise(26, "edge is refused");
        Desk desk = squares(new int[][] {{1, 2}, {3, 4}});
        CountOffice x = desk.x;
        desk.table("count by r");
        desk.table("sum r by r, c");
        CHECKS.dueWith(x, "edge(3, 0, 0, 1)", x.edge(3, 0, 0, 1, true), -1, 1);
        CHECKS.dueWith(x, "edge(-1, 0, 0, 1)", x.edge(-1, 0, 0, 1, true), -1, 1);
        CHECKS.dueWith(x, "edge(0, 2, 0, 1)", x.edge(0, 2, 0, 1, true), -1, 1);
        CHECKS.dueWith(x, "edge(0, 0, 2, 1)", x.edge(0, 0, 2, 1, true), -1, 1);
        CHECKS.dueWith(x, "edge(0, -1, 0, 1)", x.edge(0, -1, 0, 1, true), -1, 1);
        CHECKS.dueWith(x, "edge(1, 0, 1, 1): no such VALUE", x.edge(1, 0, 1, 1, true), -1, 1);
        CHECKS.dueWith(x, "edge(1, 0, 0, 1): not such a TABLE", x.edge(1, 0, 0, 1, true), -1, 5);
        CHECKS.dueWith(x, "edge(2, 0, 0, 1): a sum", x.edge(2, 0, 0, 1, true), -1, 5);
        CHECKS.dueWith(x, "edge(0, 0, 0, 14): not in it", x.edge(0, 0, 0, 14, true), -1, 5);
        CHECKS.dueWith(x, "edge(0, 0, 0, 17): no such CELL", x.edge(0, 0, 0, 17, true), -1, 2);
        CHECKS.dueWith(x, "edge(0, 0, 0, -1)", x.edge(0, 0, 0, -1, true), -1, 2);
        CHECKS.dueWith(x, "edge(0, 0, 0, 16): 5 comes ahead of 2", x.edge(0, 0, 0, 16, true), -1, 5);
        CHECKS.dueWith(x, "edge(0, 0, 0, 15)", x.edge(0, 0, 0, 15, true), 3, 0);
    }

    private static void edgeOfManyCells() {
        CHECKS.promise(26, "edge of sixty CELLS");
        Desk desk = Desk.with("field a top 9 cost 1; field b top 5 cost 1; field c top 6 cost 1");
        CountOffice x = desk.x;
        desk.table("count by a, b");
        desk.table("count by b, a");
        desk.table("count by a, c");
        for (int k = 0; k < 60; k++) {
            desk.row(k % 10, k % 6);
        }
        long all = (1L << 60) - 1;
        CHECKS.due("HIGH", x.edge(0, 9, 5, all, true), 6);
        CHECKS.due("LOW", x.edge(0, 9, 5, all, false), 0);
        CHECKS.due("HIGH the other way", x.edge(1, 5, 9, all, true), 6);
        CHECKS.due("of an empty CELL", x.edge(0, 0, 1, all, true), 6);
        CHECKS.dueWith(x, "bit 60", x.edge(0, 0, 0, 1L << 60 | 1, true), -1, 2);
        CHECKS.dueWith(x, "70 CELLS", x.edge(2, 0, 0, 1, true), -1, 5);
        CHECKS.dueWith(x, "wide of 60 CELLS", x.wide(0, all), 1, 0);
        x.set(0, 3);
        x.set(1, 6);
        CHECKS.due("WIDTH 6", x.wide(0, all), 1);
        x.set(1, 7);
        CHECKS.due("WIDTH 7", x.wide(0, all), 0);
    }

    private static void wide() {
        CHECKS.promise(27, "wide");
        Desk desk = squares(new int[][] {{1, 4, 0}, {3, 2, 5}, {3, 4, 5}});
        CountOffice x = desk.x;
        desk.table("count by c");
        CHECKS.dueWith(x, "a square", x.wide(0, 27), 1, 0);
        CHECKS.due("a SHY CELL isn't in it", x.wide(0, 511 - 16), 0);
        CHECKS.due("only SHY CELLS", x.wide(0, 17), 0);
        CHECKS.due("all", x.wide(0, 511), 1);
        CHECKS.due("one of no use that isn't SHY", x.wide(0, 27 | 256), 1);
        x.set(1, 4);
        CHECKS.due("WIDTH 4", x.wide(0, 27), 1);
        x.set(1, 5);
        CHECKS.due("WIDTH 5", x.wide(0, 27), 0);
        x.set(0, 1);
        CHECKS.due("nothing is SHY", x.wide(0, 0), 1);
        CHECKS.dueWith(x, "wide(2, 0)", x.wide(2, 0), -1, 1);
        CHECKS.dueWith(x, "wide(-1, 0)", x.wide(-1, 0), -1, 1);
        CHECKS.dueWith(x, "wide(1, 0)", x.wide(1, 0), -1, 5);
        CHECKS.dueWith(x, "wide(1, -1): 5 comes ahead", x.wide(1, -1), -1, 5);
        CHECKS.dueWith(x, "wide(0, 512)", x.wide(0, 512), -1, 2);
        CHECKS.dueWith(x, "wide(0, -2^63)", x.wide(0, Long.MIN_VALUE), -1, 2);
    }

    private static void least() {
        CHECKS.promise(28, "least");
        CountOffice x = squares(new int[][] {{1, 4, 0}, {3, 2, 5}, {3, 4, 5}}).x;
        CHECKS.dueWith(x, "a square", x.least(0), 27, 0);
        x.set(1, 5);
        int wider = x.least(0);
        CHECKS.due("wider", x.wide(0, wider), 1);
        x.set(1, 10);
        CHECKS.dueWith(x, "too wide", x.least(0), -2, 0);
        x.set(0, 1);
        CHECKS.due("nothing is SHY", x.least(0), 0);
        CountOffice line = squares(new int[][] {{2, 30}, {0, 0}}).x;
        CHECKS.due("one line alone", line.least(0), -2);
        CountOffice twelve = squares(new int[][] {{1, 5, 5, 5}, {5, 5, 3, 3}, {5, 5, 3, 3}}).x;
        twelve.set(0, 2);
        twelve.set(1, 2);
        CHECKS.due("1, 5, 5 and 3", twelve.least(0), 1 | 4 | 16 | 64);
    }

    private static void leastTies() {
        CHECKS.promise(28, "least: ties");
        CountOffice cells = squares(new int[][] {{1, 3, 3}, {3, 3, 0}, {3, 0, 3}}).x;
        cells.set(0, 2);
        CHECKS.due("of two with 7 ROWS in 4 CELLS the lesser as bits", cells.least(0), 1 | 4 | 8 | 32);
        CountOffice six = squares(new int[][] {{0, 3, 20}, {20, 2, 3}, {3, 6, 1}}).x;
        six.set(0, 2);
        CHECKS.due("12 ROWS in 6 CELLS", six.wide(0, 371), 1);
        CHECKS.due("12 ROWS in 4 CELLS, though the greater as bits", six.least(0), 432);
        CountOffice zero = squares(new int[][] {{1, 0, 0}, {0, 5, 9}, {0, 9, 5}}).x;
        zero.set(0, 2);
        zero.set(1, 1);
        CHECKS.due("fewest ROWS", zero.least(0), 1 | 2 | 8 | 16);
        CountOffice fewer = squares(new int[][] {{2, 9, 2}, {9, 9, 9}, {2, 9, 2}}).x;
        CHECKS.due("the corners alone", fewer.least(0), 1 | 4 | 64 | 256);
    }

    private static void leastIsRefused() {
        CHECKS.promise(28, "least is refused");
        Desk desk = Desk.with("field a top 2 cost 1; field b top 3 cost 1; field c top 6 cost 1; field d top 1 cost 1");
        CountOffice x = desk.x;
        desk.table("count by a, b");
        desk.table("count by c, d");
        desk.table("count by a");
        desk.table("sum a by a, b");
        CHECKS.dueWith(x, "12 CELLS", x.least(0), 0, 0);
        CHECKS.dueWith(x, "14 CELLS", x.least(1), -3, 5);
        CHECKS.dueWith(x, "by one", x.least(2), -3, 5);
        CHECKS.dueWith(x, "a sum", x.least(3), -3, 5);
        CHECKS.dueWith(x, "least(4)", x.least(4), -3, 1);
        CHECKS.dueWith(x, "least(-1)", x.least(-1), -3, 1);
    }

    private static void differing() {
        CHECKS.promise(29, "differing");
        Desk desk = Desk.with("field a top 2 cost 1; field b top 2 cost 1; field c top 9 cost 1; field d top 9 cost 1");
        CountOffice x = desk.x;
        desk.table("count by a, b");
        desk.table("count by a, b where c > 0");
        desk.table("count by b, a");
        desk.table("count by a");
        desk.table("sum c by a, b");
        desk.table("count");
        desk.table("count where c > 0");
        desk.table("count by c, d");
        desk.rows(5, 0, 0, 1, 9);
        desk.rows(1, 0, 0, 0, 9);
        desk.rows(2, 1, 0, 0, 9);
        desk.rows(3, 1, 1, 0, 9);
        desk.rows(4, 2, 2, 1, 0);
        desk.rows(1, 2, 2, -1, 0);
        x.weight(0, 50);
        CHECKS.dueWith(x, "apart by 1, 2, 3 and 1", x.differing(0, 1), 3, 0);
        CHECKS.due("the other way round", x.differing(1, 0), 3);
        CHECKS.due("with itself", x.differing(0, 0), 0);
        x.set(0, 4);
        CHECKS.due("MIN 4", x.differing(0, 1), 4);
        x.set(0, 2);
        CHECKS.due("MIN 2", x.differing(0, 1), 2);
        x.set(0, 1);
        CHECKS.due("MIN 1", x.differing(0, 1), 0);
        x.set(0, 8);
        CHECKS.due("without by: apart by 7", x.differing(5, 6), 1);
        CHECKS.dueWith(x, "100 CELLS", x.differing(7, 7), 0, 0);
        CHECKS.dueWith(x, "not in order", x.differing(0, 2), -1, 5);
        CHECKS.dueWith(x, "not both by two", x.differing(0, 3), -1, 5);
        CHECKS.dueWith(x, "not both by one", x.differing(3, 5), -1, 5);
        CHECKS.dueWith(x, "a sum", x.differing(0, 4), -1, 5);
        CHECKS.dueWith(x, "a sum ahead", x.differing(4, 4), -1, 5);
        CHECKS.dueWith(x, "differing(0, 8)", x.differing(0, 8), -1, 1);
        CHECKS.dueWith(x, "differing(-1, 0)", x.differing(-1, 0), -1, 1);
        CHECKS.dueWith(x, "differing(4, 8): 1 comes ahead", x.differing(4, 8), -1, 1);
    }

    private static void lot() {
        CHECKS.promise(30, "lot");
        Desk desk = Desk.with("field a top 1 cost 1");
        CountOffice x = desk.x;
        CHECKS.dueWith(x, "lot(-9)", x.lot(-9), 1, 0);
        CHECKS.dueWith(x, "lot(9)", x.lot(9), 2, 0);
        CHECKS.dueWith(x, "lot(-10)", x.lot(-10), -1, 2);
        CHECKS.dueWith(x, "lot(10)", x.lot(10), -1, 2);
        for (int k = 3; k <= 100; k++) {
            CHECKS.due("lot " + k, x.lot(k % 19 - 9), k);
        }
        CHECKS.dueWith(x, "no room", x.lot(0), -1, 3);
        CHECKS.dueWith(x, "a number comes ahead of room", x.lot(99), -1, 2);
        CHECKS.due("count(8)", x.count(8), 100);
        CountOffice bare = new CountOffice();
        CHECKS.dueWith(bare, "no BOOK", bare.lot(99), -1, 1);
        desk.table("count by a");
        desk.row(1);
        x.weight(0, 50);
        x.set(3, 1000);
        CHECKS.due("the first of the line", x.noise(0, 1, 0), 41);
        CHECKS.due("room again", x.lot(7), 100);
        int[] first = {9, 3 % 19 - 9, 4 % 19 - 9};
        for (int k = 0; k < 3; k++) {
            x.weight(0, 60 + k);
            CHECKS.due("in their order", x.noise(0, 1, 0), 60 + k + first[k]);
        }
        for (int k = 5; k <= 100; k++) {
            x.weight(0, 20 + k % 2);
            CHECKS.due("in their order", x.noise(0, 1, 0), 20 + k % 2 + k % 19 - 9);
        }
        x.weight(0, 99);
        CHECKS.due("the last one", x.noise(0, 1, 0), 99 + 7);
        CHECKS.due("count(8)", x.count(8), 0);
    }

    private static void noise() {
        CHECKS.promise(31, "noise");
        Desk desk = squares(new int[][] {{1, 4}, {3, 2}});
        CountOffice x = desk.x;
        CHECKS.dueWith(x, "no BUDGET, no LOT", x.noise(0, 0, 0), NO, 5);
        x.set(3, 2);
        CHECKS.dueWith(x, "no LOT", x.noise(0, 0, 0), NO, 5);
        CHECKS.due("no BUDGET is taken", x.count(9), 2);
        x.lot(5);
        x.lot(-9);
        x.lot(1);
        x.lot(2);
        CHECKS.dueWith(x, "1 and 5", x.noise(0, 0, 0), 6, 0);
        CHECKS.due("a BUDGET less", x.count(9), 1);
        CHECKS.due("a LOT less", x.count(8), 3);
        CHECKS.due("told again", x.noise(0, 0, 0), 6);
        CHECKS.due("no BUDGET is taken", x.count(9), 1);
        CHECKS.due("4 and -9: 0 at least", x.noise(0, 0, 1), 0);
        CHECKS.dueWith(x, "no BUDGET left", x.noise(0, 1, 1), NO, 5);
        CHECKS.due("no LOT is taken", x.count(8), 2);
        CHECKS.dueWith(x, "told again without BUDGET", x.noise(0, 0, 0), 6, 0);
        CHECKS.due("told again, though 0", x.noise(0, 0, 1), 0);
        x.weight(0, 7);
        CHECKS.dueWith(x, "another FIGURE", x.noise(0, 0, 0), NO, 5);
        x.weight(0, 1);
        CHECKS.dueWith(x, "the FIGURE that was told", x.noise(0, 0, 0), 6, 0);
        x.weight(0, 7);
        x.set(3, 1000);
        CHECKS.due("7 and 1", x.noise(0, 0, 0), 8);
        x.weight(0, 1);
        CHECKS.due("what was told at last is of 7", x.noise(0, 0, 0), 3);
        CHECKS.due("count(8)", x.count(8), 0);
        CHECKS.dueWith(x, "noise(1, 0, 0)", x.noise(1, 0, 0), NO, 1);
        CHECKS.dueWith(x, "noise(-1, 0, 0)", x.noise(-1, 0, 0), NO, 1);
        CHECKS.dueWith(x, "noise(0, 2, 0)", x.noise(0, 2, 0), NO, 1);
        CHECKS.dueWith(x, "noise(0, 0, -1)", x.noise(0, 0, -1), NO, 1);
    }

    private static void noiseOfCells() {
        CHECKS.promise(31, "noise of CELLS");
        Desk desk = Desk.with("field a top 9 cost 1; field b top 9 cost 1");
        CountOffice x = desk.x;
        desk.table("count by a, b");
        desk.table("sum a by b, a");
        x.set(3, 100);
        x.lot(3);
        x.lot(4);
        x.lot(5);
        desk.row(9, 9);
        CHECKS.due("the last CELL", x.noise(0, 9, 9), 4);
        CHECKS.due("of another TABLE", x.noise(1, 9, 9), 13);
        CHECKS.due("an empty CELL", x.noise(0, 9, 8), 5);
        CHECKS.due("told again", x.noise(0, 9, 9), 4);
        CHECKS.due("told again", x.noise(1, 9, 9), 13);
        CHECKS.due("told again", x.noise(0, 9, 8), 5);
        desk.book("field a top 9 cost 1; field b top 9 cost 1");
        desk.table("count by a, b");
        desk.row(9, 9);
        x.set(3, 100);
        CHECKS.dueWith(x, "another BOOK: nothing was told", x.noise(0, 9, 9), NO, 5);
        x.lot(-1);
        CHECKS.due("1 and -1", x.noise(0, 9, 9), 0);
    }

    private static void led() {
        CHECKS.promise(32, "led");
        Desk desk = Desk.with("field a top 2 cost 1; field b top 2 cost 1; never a = 1 and b = 2");
        CountOffice x = desk.x;
        desk.table("count by a, b");
        desk.table("sum b by a");
        desk.table("count where b < 2");
        desk.row(1, 0);
        desk.row(1, 2);
        desk.row(1, 1);
        desk.row(1, -1);
        desk.row(0, 1);
        desk.row(1, 0);
        CHECKS.dueLed(x, 0, 1, 0, 0, 0);
        CHECKS.dueLed(x, 0, 1, 0, 1, 5);
        CHECKS.dueNotLed(x, 0, 1, 0, 2);
        CHECKS.dueNotLed(x, 0, 1, 0, -1);
        CHECKS.dueNotLed(x, 0, 1, 2, 0);
        CHECKS.dueLed(x, 1, 1, 0, 0, 0);
        CHECKS.dueLed(x, 1, 1, 0, 1, 2);
        CHECKS.dueLed(x, 1, 1, 0, 2, 5);
        CHECKS.dueNotLed(x, 1, 1, 0, 3);
        CHECKS.dueLed(x, 2, 0, 0, 2, 4);
        CHECKS.dueNotLed(x, 2, 0, 1, 0);
        CHECKS.dueNotLed(x, 3, 0, 0, 0);
        CHECKS.dueNotLed(x, -1, 0, 0, 0);
        CHECKS.dueNotLed(x, 0, 3, 0, 0);
        CHECKS.dueNotLed(x, 0, 0, -1, 0);
        x.pass(1);
        x.withdraw(0);
        CHECKS.dueLed(x, 0, 1, 0, 0, 5);
        CHECKS.dueNotLed(x, 0, 1, 0, 1);
        x.fill(3, 0);
        CHECKS.dueLed(x, 1, 1, 0, 1, 3);
    }
}
