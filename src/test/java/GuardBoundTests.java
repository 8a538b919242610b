/** Term IV and promises 24 to 32, sentence by sentence: GUARDED TABLES, DIFFERING and NOISE. */
public final class GuardBoundTests {
    private static final int LOWEST = Integer.MIN_VALUE;
    private static final int HIGHEST = Integer.MAX_VALUE;
    private static final long NO = Checks.NO_FIGURE;
    private static final Checks CHECKS = new Checks("GuardBoundTests");
    private static final Twins BUSY = new Twins(CHECKS, Lands::busy);
    private static final Twins UNTOLD = new Twins(CHECKS, Lands::withoutBook);
    private static final Twins BARE = new Twins(CHECKS, Lands::bare);

    public static void main(String[] args) {
        settings();
        settingsAtFirst();
        setIsRefused();
        guarded();
        sixtyCells();
        guardedRows();
        shy();
        shyIsRefused();
        bits();
        bitsThatThereArent();
        lowAndHigh();
        lowAndHighOfCircles();
        allLeftOut();
        edgeIsRefused();
        edgeOrder();
        wideHoldsAllShy();
        width();
        widthOfEach();
        wideIsRefused();
        twelveCells();
        fewestRows();
        fewestCells();
        lesserBits();
        noLeast();
        leastIsRefused();
        differing();
        differingRows();
        sameBy();
        differingIsRefused();
        lots();
        lineOfLots();
        lotIsRefused();
        noiseCosts();
        noiseByFilling0();
        noiseIsNotBelowZero();
        noiseToldAgain();
        noiseOfTheCell();
        noiseIsRefused();
        led();
        ledIsNone();
        CHECKS.close();
    }

    private static CountOffice squares(int[][] counts) {
        return Lands.squares(counts).x;
    }

    private static final int[] LEAST = {1, 1, 1, 0};
    private static final int[] MOST = {20, 50, 99, 1000};

    private static void settings() {
        CHECKS.sentence("Term IV and promise 24", "MIN 1 .. 20, WIDTH 1 .. 50, M 1 .. 99, BUDGET 0 .. 1,000; true; false: 2");
        for (int what = 0; what <= 3; what++) {
            int of = what;
            for (int v : new int[] {LEAST[what], LEAST[what] + 1, MOST[what] - 1, MOST[what]}) {
                CountOffice x = Lands.busy().x;
                CHECKS.dueWith(x, "set(" + what + ", " + v + ")", x.set(what, v), true, 0);
                CHECKS.due("count(9)", x.count(9), what == 3 ? v : 4);
            }
            for (int v : new int[] {LEAST[what] - 1, MOST[what] + 1, LOWEST, HIGHEST}) {
                BUSY.no("set(" + what + ", " + v + ")", x -> x.set(of, v), 2);
            }
        }
    }

    private static void settingsAtFirst() {
        CHECKS.sentence("Term IV", "MIN 3 until told; WIDTH 3 until told; BUDGET 0 at first");
        CountOffice x = squares(new int[][] {{2, 1}, {1, 3}});
        CHECKS.due("MIN 3: 1 and 2 are SHY, 3 isn't", x.shy(0), 3);
        CHECKS.due("count(9)", x.count(9), 0);
        // The CELLS have 2 + min(1, 1) at most, and 2 less than 3 by which they go down.
        CHECKS.due("WIDTH 3: 0 to 3", x.wide(0, 15), 1);
        CountOffice less = squares(new int[][] {{1, 1}, {1, 3}});
        CHECKS.due("WIDTH 3: 0 to 2", less.wide(0, 15), 0);
        less.set(1, 2);
        CHECKS.due("WIDTH 2", less.wide(0, 15), 1);
    }

    private static void setIsRefused() {
        CHECKS.sentence("Promise 24", "what 0 .. 3 becomes it: true; false: 1 (no BOOK, too); 2");
        for (int what : new int[] {-1, 4, LOWEST, HIGHEST}) {
            BUSY.no("set(" + what + ", 3)", x -> x.set(what, 3), 1);
            BUSY.no("set(" + what + ", -1): 1 comes ahead of 2", x -> x.set(what, -1), 1);
        }
        for (int what = 0; what <= 3; what++) {
            int of = what;
            UNTOLD.no("set(" + what + ", 3) without a BOOK", x -> x.set(of, 3), 1);
            UNTOLD.no("set(" + what + ", -1) without a BOOK: 1 comes ahead of 2", x -> x.set(of, -1), 1);
        }
    }

    private static void guarded() {
        CHECKS.sentence("Term IV and promise 25", "GUARDED: a TABLE count by two; 5 (it isn't such a TABLE)");
        String[] texts = {"count by a, b", "count by b, a where c = 1", "count", "count by a", "sum c by a, b", "sum c",
            "sum c by a", "count where a = 1"};
        for (int t = 0; t < texts.length; t++) {
            Desk desk = Lands.bare();
            desk.table(texts[t]);
            boolean fine = t < 2;
            CHECKS.dueWith(desk.x, "shy(0) of " + texts[t], desk.x.shy(0), fine ? 0 : -1, fine ? 0 : 5);
            CHECKS.dueWith(desk.x, "wide(0, 1) of " + texts[t], desk.x.wide(0, 1), fine ? 1 : -1, fine ? 0 : 5);
            CHECKS.dueWith(desk.x, "least(0) of " + texts[t], desk.x.least(0), fine ? 0 : -3, fine ? 0 : 5);
            CHECKS.dueWith(desk.x, "edge(0, 0, 0, 1, true) of " + texts[t], desk.x.edge(0, 0, 0, 1, true), fine ? 0 : -1,
                    fine ? 0 : 5);
        }
    }

    private static Desk cross(int lines, int columns) {
        Desk desk = Desk.with("field a top " + (lines - 1) + " cost 1; field b top " + (columns - 1) + " cost 1");
        desk.table("count by a, b");
        desk.row(lines - 1, columns - 1);
        return desk;
    }

    private static void sixtyCells() {
        CHECKS.sentence("Term IV", "of at most 60 CELLS");
        int[][] few = {{10, 6}, {6, 10}, {2, 10}, {7, 8}, {2, 2}};
        for (int[] of : few) {
            CountOffice x = cross(of[0], of[1]).x;
            String cells = of[0] + " by " + of[1];
            int last = of[0] * of[1] - 1;
            CHECKS.dueWith(x, "shy, " + cells, x.shy(0), 1, 0);
            CHECKS.dueWith(x, "the last CELL's bit, " + cells, x.edge(0, of[0] - 1, of[1] - 1, 1L << last, true), 1, 0);
            CHECKS.dueWith(x, "wide, " + cells, x.wide(0, 1L << last), 0, 0);
            CHECKS.dueWith(x, "a bit too much, " + cells, x.wide(0, 1L << last + 1), -1, 2);
        }
        edgesOfSixty();
        int[][] many = {{9, 7}, {7, 9}, {8, 8}, {10, 7}, {10, 10}};
        for (int[] of : many) {
            Twins twins = new Twins(CHECKS, () -> cross(of[0], of[1]));
            String cells = of[0] + " by " + of[1];
            twins.none("shy(0), " + cells, x -> x.shy(0), 5);
            twins.none("edge(0, 0, 0, 1, true), " + cells, x -> x.edge(0, 0, 0, 1, true), 5);
            twins.none("wide(0, 1), " + cells, x -> x.wide(0, 1), 5);
            twins.refused("least(0), " + cells, x -> x.least(0), -3, 5);
        }
    }

    private static void edgesOfSixty() {
        Desk desk = cross(10, 6);
        desk.rows(3, 0, 0);
        desk.rows(2, 9, 0);
        desk.rows(4, 0, 5);
        CountOffice x = desk.x;
        long corners = 1 | 1L << 5 | 1L << 54 | 1L << 59;
        CHECKS.due("LOW of the first", x.edge(0, 0, 0, corners, false), 2);
        CHECKS.due("HIGH of the first", x.edge(0, 0, 0, corners, true), 5);
        CHECKS.due("LOW of the last", x.edge(0, 9, 5, corners, false), 0);
        CHECKS.due("HIGH of the last", x.edge(0, 9, 5, corners, true), 3);
        CHECKS.due("the last is 0 to 3", x.wide(0, corners | 1L << 30), 1);
        // By lines 0, 1 .. 8 and 9 and columns 0, 1 .. 4 and 5, round a circle of CELLS without ROWS.
        long all = (1L << 60) - 1;
        CHECKS.due("HIGH of all", x.edge(0, 4, 3, all, true), 0);
        CHECKS.due("HIGH of the last of all", x.edge(0, 9, 5, all, true), 3);
    }

    private static void allLeftOut() {
        CHECKS.sentence("Term IV", "the least and the most that it could be: all CELLS left out, the sums of line and column alone");
        int[][] sizes = {{10, 6}, {6, 10}, {7, 8}, {3, 4}, {2, 10}};
        for (int[] of : sizes) {
            int[] inLine = new int[of[0]];
            int[] inColumn = new int[of[1]];
            Desk desk = Desk.with("field a top " + (of[0] - 1) + " cost 1; field b top " + (of[1] - 1) + " cost 1");
            desk.table("count by a, b");
            for (int k = 0; k < 60; k++) {
                int i = k * k % 17 % of[0];
                int j = (k * 5 + k * k % 7) % of[1];
                desk.row(i, j);
                inLine[i]++;
                inColumn[j]++;
            }
            long all = (1L << of[0] * of[1]) - 1;
            for (int i = 0; i < of[0]; i++) {
                for (int j = 0; j < of[1]; j++) {
                    String cell = i + ", " + j + " of " + of[0] + " by " + of[1];
                    CHECKS.due("LOW of " + cell, desk.x.edge(0, i, j, all, false), Math.max(0, inLine[i] + inColumn[j] - 60));
                    CHECKS.due("HIGH of " + cell, desk.x.edge(0, i, j, all, true), Math.min(inLine[i], inColumn[j]));
                }
            }
        }
    }

    private static void guardedRows() {
        CHECKS.sentence("Term IV", "as of TODAY by FILLING 0, by ROWS (not WEIGHTS)");
        Desk desk = Desk.with("field r top 1 cost 1; field c top 1 cost 1; field d top 1 cost 1; never d = 1");
        CountOffice x = desk.x;
        desk.table("count by r, c");
        desk.table("count by r, c where r = 1");
        desk.rows(2, 0, 0, 0);
        desk.rows(1, 1, 1, 0);
        CHECKS.due("2 ROWS and 1", x.shy(0), 2);
        CHECKS.due("where", x.shy(1), 1);
        x.weight(0, 50);
        x.weight(2, 50);
        CHECKS.due("not WEIGHTS", x.shy(0), 2);
        CHECKS.due("not WEIGHTS", x.edge(0, 0, 0, 15, true), 2);
        desk.row(0, 0, 1);
        CHECKS.due("a BROKEN one isn't among them", x.edge(0, 0, 0, 1, true), 2);
        desk.row(0, 0, 0);
        CHECKS.due("3 ROWS are not SHY", x.shy(0), 1);
        x.pass(1);
        x.withdraw(0);
        CHECKS.due("TODAY 2 are", x.shy(0), 2);
        desk.row(0, -1, 0);
        CHECKS.due("a GAP is in no CELL", x.edge(0, 0, 0, 1, true), 2);
        x.fill(5, 0);
        CHECKS.due("FILLED by FILLING 0", x.edge(0, 0, 0, 1, true), 3);
        Desk two = Desk.with("field r top 1 cost 1; field c top 1 cost 1");
        two.table("count by r, c");
        two.row(0, -1);
        two.row(0, 0);
        two.row(0, 1);
        CHECKS.due("fill(0, 1)", two.x.fill(0, 1), 2);
        CHECKS.due("by FILLING 0 it isn't there", two.x.edge(0, 0, 0, 1, true), 1);
        CHECKS.due("but there", two.x.edge(0, 0, 1, 2, true), 2);
    }

    private static void shy() {
        CHECKS.sentence("Term IV", "a CELL of 1 .. MIN less 1 is SHY (MIN 1 .. 20; 3 until told)");
        for (int v = 0; v <= 21; v++) {
            CountOffice x = squares(new int[][] {{30, v}, {0, 0}});
            CHECKS.due("at first, a CELL of " + v, x.shy(0), v == 1 || v == 2 ? 1 : 0);
            for (int min = 1; min <= 20; min++) {
                x.set(0, min);
                boolean shy = v >= 1 && v <= min - 1;
                CHECKS.dueWith(x, "MIN " + min + ", a CELL of " + v, x.shy(0), shy ? 1 : 0, 0);
                CHECKS.due("nothing left out, MIN " + min + ", a CELL of " + v, x.wide(0, 0), shy ? 0 : 1);
            }
        }
        CountOffice all = squares(new int[][] {{1, 2, 3}, {4, 5, 6}});
        for (int min = 1; min <= 20; min++) {
            all.set(0, min);
            CHECKS.due("how many with MIN " + min, all.shy(0), Math.min(min - 1, 6));
        }
    }

    private static void shyIsRefused() {
        CHECKS.sentence("Promise 25", "How many CELLS of a TABLE are SHY. NONE: 1; 5");
        for (int t : new int[] {-1, 4, 8, LOWEST, HIGHEST}) {
            BUSY.none("shy(" + t + ")", x -> x.shy(t), 1);
        }
        BUSY.none("shy(1): a sum by one", x -> x.shy(1), 5);
        BUSY.none("shy(2): a count without by", x -> x.shy(2), 5);
        BARE.none("shy(0) without a TABLE", x -> x.shy(0), 1);
        UNTOLD.none("shy(0) without a BOOK", x -> x.shy(0), 1);
    }

    private static void bits() {
        CHECKS.sentence("Term IV", "told as bits: the first by's VALUE times the columns, and the second's");
        int[][] counts = {{1, 2, 3, 4}, {5, 6, 0, 1}, {2, 3, 1, 0}};
        CountOffice x = squares(counts);
        for (int i = 0; i < 3; i++) {
            for (int j = 0; j < 4; j++) {
                for (int bit = 0; bit < 12; bit++) {
                    boolean its = bit == 4 * i + j;
                    CHECKS.dueWith(x, "edge of " + i + ", " + j + " with bit " + bit, x.edge(0, i, j, 1L << bit, true),
                            its ? counts[i][j] : -1, its ? 0 : 5);
                }
            }
        }
    }

    private static void bitsThatThereArent() {
        CHECKS.sentence("Promises 26 and 27", "2 (bits of CELLS that there aren't)");
        Twins twelve = new Twins(CHECKS, () -> Lands.squares(new int[][] {{1, 2, 3, 4}, {5, 6, 0, 1}, {2, 3, 1, 0}}));
        CountOffice x = squares(new int[][] {{1, 2, 3, 4}, {5, 6, 0, 1}, {2, 3, 1, 0}});
        CHECKS.dueWith(x, "edge with bit 11", x.edge(0, 0, 0, 1 | 1L << 11, true), 1, 0);
        CHECKS.dueWith(x, "wide with bit 11", x.wide(0, 1L << 11), 0, 0);
        for (int bit : new int[] {12, 13, 31, 32, 59, 60, 62, 63}) {
            twelve.none("edge with bit " + bit, y -> y.edge(0, 0, 0, 1 | 1L << bit, true), 2);
            twelve.none("edge of all, with bit " + bit, y -> y.edge(0, 2, 3, 4095 | 1L << bit, false), 2);
            twelve.none("wide with bit " + bit, y -> y.wide(0, 1L << bit), 2);
            twelve.none("wide of all, with bit " + bit, y -> y.wide(0, 4095 | 1L << bit), 2);
        }
        Twins sixty = new Twins(CHECKS, () -> cross(10, 6));
        for (int bit = 60; bit < 64; bit++) {
            int of = bit;
            sixty.none("edge of 60 CELLS with bit " + bit, y -> y.edge(0, 9, 5, 1L << 59 | 1L << of, true), 2);
            sixty.none("wide of 60 CELLS with bit " + bit, y -> y.wide(0, 1L << of), 2);
        }
        CHECKS.dueWith(cross(10, 6).x, "wide of all 60", cross(10, 6).x.wide(0, (1L << 60) - 1), 0, 0);
    }

    private static void lowAndHigh() {
        CHECKS.sentence("Term IV", "LOW and HIGH: the least and the most that it could be, whole numbers not below 0 that give the same sums");
        for (int k = 0; k < 256; k++) {
            int a = k & 3;
            int b = k >> 2 & 3;
            int c = k >> 4 & 3;
            int d = k >> 6;
            CountOffice x = squares(new int[][] {{a, b}, {c, d}});
            String of = a + ", " + b + "; " + c + ", " + d;
            CHECKS.dueWith(x, "LOW of the first in " + of, x.edge(0, 0, 0, 15, false), a - Math.min(a, d), 0);
            CHECKS.due("HIGH of the first in " + of, x.edge(0, 0, 0, 15, true), a + Math.min(b, c));
            CHECKS.due("LOW of the last in " + of, x.edge(0, 1, 1, 15, false), d - Math.min(a, d));
            CHECKS.due("HIGH of the second in " + of, x.edge(0, 0, 1, 15, true), b + Math.min(a, d));
            for (int bit = 1; bit < 15; bit <<= 1) {
                CHECKS.due("HIGH without bit " + bit, x.edge(0, bit < 4 ? 1 : 0, bit == 1 || bit == 4 ? 1 : 0,
                        15 & ~bit, true), bit == 1 ? d : bit == 2 ? c : bit == 4 ? b : a);
            }
            CHECKS.due("LOW alone", x.edge(0, 1, 0, 4, false), c);
        }
    }

    private static void lowAndHighOfCircles() {
        CHECKS.sentence("Term IV", "all CELLS left out being whole numbers not below 0 that give the same sums: circles of more than four");
        CountOffice x = squares(new int[][] {{3, 4, 0}, {0, 3, 5}, {2, 0, 1}});
        long ring = 1 | 2 | 16 | 32 | 64 | 256;
        CHECKS.due("LOW by 3, 3 and 1", x.edge(0, 0, 0, ring, false), 3 - Math.min(3, Math.min(3, 1)));
        CHECKS.due("HIGH by 4, 5 and 2", x.edge(0, 0, 0, ring, true), 3 + Math.min(4, Math.min(5, 2)));
        CHECKS.due("LOW of what goes against it", x.edge(0, 0, 1, ring, false), 4 - 2);
        CHECKS.due("HIGH of that", x.edge(0, 0, 1, ring, true), 4 + 1);
        for (int cell = 0; cell < 9; cell++) {
            if ((ring >> cell & 1) != 0) {
                int value = x.edge(0, cell / 3, cell % 3, 1L << cell, true);
                for (int cut = 0; cut < 9; cut++) {
                    if (cut != cell && (ring >> cut & 1) != 0) {
                        long broken = ring & ~(1L << cut);
                        CHECKS.due("no circle: LOW", x.edge(0, cell / 3, cell % 3, broken, false), value);
                        CHECKS.due("no circle: HIGH", x.edge(0, cell / 3, cell % 3, broken, true), value);
                    }
                }
            }
        }
        CHECKS.due("all left out: HIGH is what its line and column have", x.edge(0, 0, 0, 511, true), 5);
        CHECKS.due("all left out: HIGH of the last", x.edge(0, 2, 2, 511, true), 3);
        CHECKS.due("all left out: LOW", x.edge(0, 0, 1, 511, false), 0);
        CountOffice wide = squares(new int[][] {{0, 20}, {20, 0}});
        CHECKS.due("an empty one: HIGH", wide.edge(0, 0, 0, 15, true), 20);
        CHECKS.due("a full one: LOW", wide.edge(0, 0, 1, 15, false), 0);
    }

    private static void edgeIsRefused() {
        CHECKS.sentence("Promise 26", "LOW (or HIGH) of a CELL, with a set left out. NONE: 1; 5 (also: the CELL isn't in it); 2");
        for (int t : new int[] {-1, 4, 8, LOWEST, HIGHEST}) {
            BUSY.none("edge(" + t + ", 0, 0, 1, true)", x -> x.edge(t, 0, 0, 1, true), 1);
        }
        for (int v : new int[] {-1, 3, LOWEST, HIGHEST}) {
            BUSY.none("edge(0, " + v + ", 0, 511, true)", x -> x.edge(0, v, 0, 511, true), 1);
            BUSY.none("edge(0, 0, " + v + ", 511, false)", x -> x.edge(0, 0, v, 511, false), 1);
        }
        BUSY.none("edge(1, 0, 0, 1, true): a sum by one", x -> x.edge(1, 0, 0, 1, true), 5);
        BUSY.none("edge(2, 0, 0, 1, true): without by", x -> x.edge(2, 0, 0, 1, true), 5);
        BUSY.none("edge(0, 0, 0, 0, true): it isn't left out", x -> x.edge(0, 0, 0, 0, true), 5);
        BUSY.none("edge(0, 0, 0, 510, true): it isn't left out", x -> x.edge(0, 0, 0, 510, true), 5);
        BUSY.none("edge(0, 2, 2, 255, false): it isn't left out", x -> x.edge(0, 2, 2, 255, false), 5);
        BARE.none("edge(0, 0, 0, 1, true) without a TABLE", x -> x.edge(0, 0, 0, 1, true), 1);
        UNTOLD.none("edge(0, 0, 0, 1, true) without a BOOK", x -> x.edge(0, 0, 0, 1, true), 1);
        Desk desk = Lands.busy();
        CHECKS.dueWith(desk.x, "edge(0, 2, 2, 256, false)", desk.x.edge(0, 2, 2, 256, false), 0, 0);
    }

    private static void edgeOrder() {
        CHECKS.sentence("Promise 26", "1; 5; 2: in this order");
        BUSY.none("edge(4, 0, 0, 1024, true): 1 and 2", x -> x.edge(4, 0, 0, 1024, true), 1);
        BUSY.none("edge(0, 3, 0, 512, true): 1 and 2", x -> x.edge(0, 3, 0, 512, true), 1);
        BUSY.none("edge(0, 0, 0, 512, true): 5 and 2", x -> x.edge(0, 0, 0, 512, true), 5);
        BUSY.none("edge(0, 0, 0, 513, true): 2", x -> x.edge(0, 0, 0, 513, true), 2);
        BUSY.none("edge(0, 2, 2, -1, true): 2", x -> x.edge(0, 2, 2, -1, true), 2);
        BUSY.none("edge(1, 0, 0, -1, true): 5 and 2", x -> x.edge(1, 0, 0, -1, true), 5);
    }

    private static void wideHoldsAllShy() {
        CHECKS.sentence("Term IV", "A set to leave out is WIDE if all SHY CELLS are in it");
        CountOffice x = squares(new int[][] {{2, 4, 4}, {4, 4, 4}, {4, 4, 1}});
        x.set(1, 1);
        CHECKS.dueWith(x, "all CELLS", x.wide(0, 511), 1, 0);
        for (int cell = 0; cell < 9; cell++) {
            boolean shy = cell == 0 || cell == 8;
            CHECKS.dueWith(x, "all but " + cell, x.wide(0, 511 & ~(1 << cell)), shy ? 0 : 1, 0);
        }
        CHECKS.due("the corners alone", x.wide(0, 1 | 4 | 64 | 256), 1);
        CHECKS.due("the first CELL's circle alone", x.wide(0, 1 | 2 | 8 | 16), 0);
        x.set(0, 1);
        CHECKS.dueWith(x, "nothing is SHY: an empty set", x.wide(0, 0), 1, 0);
        CHECKS.due("nothing is SHY: any set", x.wide(0, 128), 1);
    }

    private static void width() {
        CHECKS.sentence("Term IV", "and HIGH less LOW of each is at least WIDTH (1 .. 50; 3 until told)");
        for (int w = 2; w <= 30; w++) {
            CountOffice x = squares(new int[][] {{1, w - 1}, {w - 1, 1}});
            x.set(0, 2);
            for (int width = 1; width <= 50; width++) {
                x.set(1, width);
                CHECKS.dueWith(x, "0 to " + w + ", WIDTH " + width, x.wide(0, 15), width <= w ? 1 : 0, 0);
            }
        }
        CountOffice none = squares(new int[][] {{1, 0}, {0, 9}});
        none.set(0, 2);
        none.set(1, 1);
        CHECKS.due("0 to 1, WIDTH 1", none.wide(0, 15), 1);
        CHECKS.due("1 alone, WIDTH 1", none.wide(0, 1), 0);
    }

    private static void widthOfEach() {
        CHECKS.sentence("Term IV", "HIGH less LOW of each is at least WIDTH: of each SHY CELL");
        CountOffice x = squares(new int[][] {{1, 5, 0}, {5, 9, 0}, {0, 0, 2}});
        x.set(1, 6);
        CHECKS.due("the first alone is wide", x.edge(0, 0, 0, 27, true) - x.edge(0, 0, 0, 27, false), 6);
        CHECKS.due("the last isn't", x.wide(0, 27 | 256), 0);
        x.set(0, 2);
        CHECKS.due("it isn't SHY with MIN 2", x.wide(0, 27 | 256), 1);
        CountOffice last = squares(new int[][] {{2, 0, 0}, {0, 9, 5}, {0, 5, 1}});
        last.set(1, 6);
        CHECKS.due("the first isn't", last.wide(0, 1 | 16 | 32 | 128 | 256), 0);
        last.set(0, 2);
        CHECKS.due("the last alone is", last.wide(0, 1 | 16 | 32 | 128 | 256), 1);
    }

    private static void wideIsRefused() {
        CHECKS.sentence("Promise 27", "Whether a set is WIDE: 1, 0. NONE: 1; 5; 2");
        for (int t : new int[] {-1, 4, 8, LOWEST, HIGHEST}) {
            BUSY.none("wide(" + t + ", 0)", x -> x.wide(t, 0), 1);
            BUSY.none("wide(" + t + ", -1): 1 comes ahead of 2", x -> x.wide(t, -1), 1);
        }
        BUSY.none("wide(1, 0): a sum by one", x -> x.wide(1, 0), 5);
        BUSY.none("wide(2, 2): 5 comes ahead of 2", x -> x.wide(2, 2), 5);
        BUSY.none("wide(0, 512)", x -> x.wide(0, 512), 2);
        BUSY.none("wide(0, -2^63)", x -> x.wide(0, Long.MIN_VALUE), 2);
        BUSY.none("wide(0, 2^63 less 1)", x -> x.wide(0, Long.MAX_VALUE), 2);
        BARE.none("wide(0, 0) without a TABLE", x -> x.wide(0, 0), 1);
        UNTOLD.none("wide(0, 0) without a BOOK", x -> x.wide(0, 0), 1);
        Desk desk = Lands.busy();
        CHECKS.dueWith(desk.x, "wide(0, 511)", desk.x.wide(0, 511), 1, 0);
        CHECKS.dueWith(desk.x, "wide(0, 0)", desk.x.wide(0, 0), 0, 0);
    }

    private static void twelveCells() {
        CHECKS.sentence("Term IV and promise 28", "LEAST: for a TABLE of at most 12 CELLS; -3: 5 (also more than 12 CELLS)");
        int[][] few = {{3, 4}, {4, 3}, {2, 6}, {6, 2}, {2, 5}, {2, 2}};
        for (int[] of : few) {
            Desk desk = cross(of[0], of[1]);
            desk.rows(3, 0, 0);
            CHECKS.dueWith(desk.x, "least of " + of[0] + " by " + of[1], desk.x.least(0), -2, 0);
            desk.x.set(1, 1);
            int last = of[0] * of[1] - 1;
            CHECKS.dueWith(desk.x, "WIDTH 1", desk.x.least(0), 1 | 1 << of[1] - 1 | 1 << last - of[1] + 1 | 1 << last, 0);
        }
        int[][] many = {{2, 7}, {7, 2}, {3, 5}, {4, 4}, {10, 6}};
        for (int[] of : many) {
            Twins twins = new Twins(CHECKS, () -> cross(of[0], of[1]));
            twins.refused("least of " + of[0] + " by " + of[1], x -> x.least(0), -3, 5);
        }
    }

    private static void fewestRows() {
        CHECKS.sentence("Term IV", "LEAST: the WIDE set in which the fewest ROWS are");
        for (int v = 6; v <= 8; v++) {
            CountOffice x = squares(new int[][] {{1, 3, v}, {3, 4, 9}});
            x.set(0, 2);
            CHECKS.dueWith(x, "by 3, 3 and 4", x.least(0), 1 | 2 | 8 | 16, 0);
            CountOffice y = squares(new int[][] {{1, v, 3}, {3, 9, 4}});
            y.set(0, 2);
            CHECKS.due("by 3, 3 and 4 of the last column", y.least(0), 1 | 4 | 8 | 32);
        }
        for (int first = 1; first <= 9; first++) {
            CountOffice x = squares(new int[][] {{first, 3, 3}, {3, 6, 3}, {3, 3, 1}});
            x.set(0, 2);
            x.set(1, 1);
            int corners = 1 | 4 | 64 | 256;
            int other = 8 | 32 | 64 | 256;
            // As many ROWS as the other circle's ten with a first CELL of 3; the corners are the lesser number.
            CHECKS.due("by a first CELL of " + first, x.least(0), first <= 3 ? corners : other);
        }
        for (int v = 5; v <= 9; v++) {
            CountOffice x = squares(new int[][] {{1, 2, 20}, {20, 2, 2}, {2, v, 2}});
            x.set(0, 2);
            x.set(1, 2);
            int six = 1 | 2 | 16 | 32 | 64 | 256;
            int four = 1 | 2 | 64 | 128;
            CHECKS.due("five ROWS and " + v + " in four CELLS, eleven in six", x.least(0), v <= 6 ? four : six);
        }
    }

    private static void fewestCells() {
        CHECKS.sentence("Term IV", "of as few the fewest CELLS");
        CountOffice x = squares(new int[][] {{1, 2, 20}, {20, 2, 2}, {2, 6, 2}});
        x.set(0, 2);
        x.set(1, 2);
        CHECKS.due("eleven ROWS in six CELLS are WIDE, too", x.wide(0, 1 | 2 | 16 | 32 | 64 | 256), 1);
        CHECKS.due("eleven ROWS in four CELLS", x.least(0), 1 | 2 | 64 | 128);
        CountOffice greater = squares(new int[][] {{0, 3, 20}, {20, 2, 3}, {3, 6, 1}});
        greater.set(0, 2);
        CHECKS.due("twelve ROWS in six CELLS are WIDE, too", greater.wide(0, 371), 1);
        CHECKS.due("twelve ROWS in four CELLS, though a greater number as bits", greater.least(0), 432);
        CountOffice zeros = squares(new int[][] {{1, 2, 0}, {2, 5, 0}, {0, 0, 0}});
        zeros.set(0, 2);
        CHECKS.due("CELLS without ROWS are not left out for nothing", zeros.least(0), 1 | 2 | 8 | 16);
        CountOffice none = squares(new int[][] {{0, 5}, {5, 5}});
        CHECKS.dueWith(none, "nothing is SHY: the empty set", none.least(0), 0, 0);
    }

    private static void lesserBits() {
        CHECKS.sentence("Term IV", "then the lesser number as bits");
        CountOffice x = squares(new int[][] {{1, 3, 3}, {3, 3, 3}, {3, 3, 3}});
        x.set(0, 2);
        CHECKS.due("four circles of ten ROWS", x.least(0), 1 | 2 | 8 | 16);
        CountOffice last = squares(new int[][] {{3, 3, 3}, {3, 3, 3}, {3, 3, 1}});
        last.set(0, 2);
        CHECKS.due("of the last CELL", last.least(0), 1 | 4 | 64 | 256);
        CountOffice middle = squares(new int[][] {{3, 3, 3}, {3, 1, 3}, {3, 3, 3}});
        middle.set(0, 2);
        CHECKS.due("of the one in the midst", middle.least(0), 1 | 2 | 8 | 16);
    }

    private static void noLeast() {
        CHECKS.sentence("Term IV and promise 28", "if there is one; -2 if there is none");
        CountOffice x = squares(new int[][] {{1, 29}, {29, 1}});
        x.set(0, 2);
        for (int width = 1; width <= 50; width++) {
            x.set(1, width);
            CHECKS.dueWith(x, "WIDTH " + width + " of 0 to 30", x.least(0), width <= 30 ? 15 : -2, 0);
        }
        CountOffice line = squares(new int[][] {{2, 50}, {0, 0}});
        line.set(1, 1);
        CHECKS.dueWith(line, "a line alone", line.least(0), -2, 0);
        line.set(0, 2);
        CHECKS.dueWith(line, "nothing is SHY with MIN 2", line.least(0), 0, 0);
    }

    private static void leastIsRefused() {
        CHECKS.sentence("Promise 28", "-3: 1; 5");
        for (int t : new int[] {-1, 4, 8, LOWEST, HIGHEST}) {
            BUSY.refused("least(" + t + ")", x -> x.least(t), -3, 1);
        }
        BUSY.refused("least(1): a sum by one", x -> x.least(1), -3, 5);
        BUSY.refused("least(2): without by", x -> x.least(2), -3, 5);
        BARE.refused("least(0) without a TABLE", x -> x.least(0), -3, 1);
        UNTOLD.refused("least(0) without a BOOK", x -> x.least(0), -3, 1);
    }

    private static void differing() {
        CHECKS.sentence("Term IV", "DIFFERING: CELLS in which their numbers of ROWS are apart by 1 .. MIN less 1");
        for (int apart = 0; apart <= 21; apart++) {
            Desk desk = Desk.with("field a top 9 cost 1; field b top 9 cost 1; field c top 1 cost 1");
            desk.table("count by a, b");
            desk.table("count by a, b where c = 1");
            desk.rows(apart, 9, 9, 0);
            desk.rows(30, 9, 9, 1);
            CountOffice x = desk.x;
            CHECKS.due("MIN at first, apart by " + apart, x.differing(0, 1), apart == 1 || apart == 2 ? 1 : 0);
            for (int min = 1; min <= 20; min++) {
                x.set(0, min);
                int due = apart >= 1 && apart <= min - 1 ? 1 : 0;
                CHECKS.dueWith(x, "MIN " + min + ", apart by " + apart, x.differing(0, 1), due, 0);
                CHECKS.due("the other way round", x.differing(1, 0), due);
            }
        }
    }

    private static void differingRows() {
        CHECKS.sentence("Term IV", "DIFFERING: how many CELLS in which their numbers of ROWS are apart");
        Desk desk = Desk.with("field a top 2 cost 1; field b top 1 cost 1; field d top 1 cost 1; never d = 1");
        CountOffice x = desk.x;
        desk.table("count by a");
        desk.table("count by a where b = 1");
        desk.row(0, 0, 0);
        desk.row(1, 0, 0);
        desk.row(2, 1, 0);
        CHECKS.due("two CELLS", x.differing(0, 1), 2);
        x.weight(0, 50);
        CHECKS.due("not WEIGHTS", x.differing(0, 1), 2);
        desk.row(2, 0, 1);
        CHECKS.due("not a BROKEN one", x.differing(0, 1), 2);
        desk.row(-1, 0, 0);
        CHECKS.due("not one with a GAP", x.differing(0, 1), 2);
        x.pass(1);
        x.withdraw(0);
        CHECKS.due("as of TODAY", x.differing(0, 1), 1);
        desk.row(2, 0, 0);
        CHECKS.due("one of TODAY", x.differing(0, 1), 2);
        CHECKS.due("with itself", x.differing(1, 1), 0);
    }

    private static void sameBy() {
        CHECKS.sentence("Term IV and promise 29", "for two TABLES count of the same by (both, in order); 5 (not both count, not the same by)");
        String[] texts = {"count", "count where c = 1", "count by a", "count by b", "count by a, b", "count by b, a",
            "sum c", "sum c by a, b"};
        int[] by = {0, 0, 1, 2, 3, 4, -1, -2};
        Desk desk = Lands.bare();
        for (String text : texts) {
            desk.table(text);
        }
        for (int a = 0; a < by.length; a++) {
            for (int b = 0; b < by.length; b++) {
                boolean same = by[a] >= 0 && by[a] == by[b];
                CHECKS.dueWith(desk.x, "differing of " + texts[a] + " and " + texts[b], desk.x.differing(a, b),
                        same ? 0 : -1, same ? 0 : 5);
            }
        }
    }

    private static void differingIsRefused() {
        CHECKS.sentence("Promise 29", "NONE: 1; 5");
        for (int t : new int[] {-1, 4, 8, LOWEST, HIGHEST}) {
            BUSY.none("differing(" + t + ", 0)", x -> x.differing(t, 0), 1);
            BUSY.none("differing(0, " + t + ")", x -> x.differing(0, t), 1);
            BUSY.none("differing(1, " + t + "): 1 comes ahead of 5", x -> x.differing(1, t), 1);
        }
        BUSY.none("differing(0, 1)", x -> x.differing(0, 1), 5);
        BUSY.none("differing(1, 1)", x -> x.differing(1, 1), 5);
        BUSY.none("differing(0, 2)", x -> x.differing(0, 2), 5);
        BARE.none("differing(0, 0) without a TABLE", x -> x.differing(0, 0), 1);
        UNTOLD.none("differing(0, 0) without a BOOK", x -> x.differing(0, 0), 1);
        Desk desk = Lands.busy();
        CHECKS.dueWith(desk.x, "differing(0, 3)", desk.x.differing(0, 3), 1, 0);
    }

    private static void lots() {
        CHECKS.sentence("Term IV and promise 30", "LOTS (-9 .. 9)");
        for (int v = -9; v <= 9; v++) {
            CountOffice x = Lands.busy().x;
            CHECKS.dueWith(x, "lot(" + v + ")", x.lot(v), 2, 0);
            x.noise(0, 1, 1);
            x.weight(0, 50);
            CHECKS.due("50 and " + v, x.noise(0, 0, 0), 50 + v);
        }
        for (int v : new int[] {-10, 10, LOWEST, HIGHEST}) {
            BUSY.none("lot(" + v + ")", x -> x.lot(v), 2);
        }
    }

    private static Desk withLots(int lots) {
        Desk desk = Lands.bare();
        desk.table(Lands.CROSS);
        desk.row(0, 0, 0);
        for (int k = 0; k < lots; k++) {
            desk.x.lot(k % 10);
        }
        return desk;
    }

    private static void lineOfLots() {
        CHECKS.sentence("Term IV and promise 30", "wait in a line, up to 100; A LOT behind the line: how many there are; 3");
        CHECKS.dueWith(withLots(0).x, "the first", withLots(0).x.lot(1), 1, 0);
        CHECKS.dueWith(withLots(98).x, "the ninety-ninth", withLots(98).x.lot(1), 99, 0);
        CHECKS.dueWith(withLots(99).x, "the hundredth", withLots(99).x.lot(1), 100, 0);
        Twins full = new Twins(CHECKS, () -> withLots(100));
        full.none("one too much", x -> x.lot(1), 3);
        full.none("2 comes ahead of 3", x -> x.lot(10), 2);
        CountOffice x = withLots(100).x;
        x.set(3, 1000);
        for (int k = 0; k < 120; k++) {
            x.weight(0, 20 + k % 2);
            CHECKS.due("the first of the line, " + k, x.noise(0, 0, 0), 20 + k % 2 + k % 10);
            CHECKS.due("behind the line, " + k, x.lot(k % 10), 100);
        }
        CHECKS.dueWith(x, "one too much", x.lot(1), -1, 3);
        CHECKS.due("count(8)", x.count(8), 100);
    }

    private static void lotIsRefused() {
        CHECKS.sentence("Promise 30", "NONE: 1 (no BOOK); 2; 3");
        UNTOLD.none("lot(0) without a BOOK", x -> x.lot(0), 1);
        UNTOLD.none("lot(10) without a BOOK: 1 comes ahead of 2", x -> x.lot(10), 1);
    }

    private static Desk noisy(int budget, int... lots) {
        Desk desk = Lands.bare();
        desk.table(Lands.CROSS);
        desk.table("sum b by a");
        desk.row(0, 0, 0);
        desk.row(0, 2, 0);
        desk.x.weight(0, 5);
        desk.x.set(3, budget);
        for (int v : lots) {
            desk.x.lot(v);
        }
        return desk;
    }

    private static void noiseCosts() {
        CHECKS.sentence("Term IV and promise 31", "A CELL told with NOISE costs 1 of BUDGET and takes the first LOT; 5 (no LOT, no BUDGET left)");
        CountOffice x = noisy(2, 3, 4, 5).x;
        CHECKS.dueWith(x, "5 and 3", x.noise(0, 0, 0), 8, 0);
        CHECKS.due("BUDGET", x.count(9), 1);
        CHECKS.due("LOTS", x.count(8), 2);
        CHECKS.dueWith(x, "1 and 4, the last of BUDGET", x.noise(0, 0, 2), 5, 0);
        CHECKS.due("BUDGET", x.count(9), 0);
        CHECKS.dueWith(x, "no BUDGET left", x.noise(0, 1, 1), NO, 5);
        CHECKS.due("LOTS", x.count(8), 1);
        new Twins(CHECKS, () -> noisy(0, 3)).noFigure("noise(0, 0, 0) without BUDGET", y -> y.noise(0, 0, 0), 5);
        new Twins(CHECKS, () -> noisy(1)).noFigure("noise(0, 0, 0) without a LOT", y -> y.noise(0, 0, 0), 5);
        new Twins(CHECKS, () -> noisy(0)).noFigure("noise(0, 0, 0) without both", y -> y.noise(0, 0, 0), 5);
        CountOffice last = noisy(1000, 3).x;
        CHECKS.dueWith(last, "the last LOT", last.noise(0, 0, 0), 8, 0);
        CHECKS.dueWith(last, "no LOT left", last.noise(0, 0, 1), NO, 5);
        CHECKS.due("BUDGET", last.count(9), 999);
    }

    private static void noiseByFilling0() {
        CHECKS.sentence("Term IV", "FIGURE (TODAY, FILLING 0)");
        for (int lot = 0; lot < 3; lot++) {
            Desk desk = Desk.with("field a top 4 cost 1; field b top 1 cost 1");
            desk.table("sum a");
            desk.row(-1, 0);
            desk.row(1, 0);
            desk.row(2, 0);
            desk.row(4, 0);
            desk.x.fill(0, lot);
            desk.x.set(3, 1);
            desk.x.lot(9);
            CHECKS.due("7, what it has by FILLING 0, and 9", desk.x.noise(0, 0, 0), 16 + (1 << lot));
        }
        Desk past = Desk.with("field a top 4 cost 1");
        past.table("sum a");
        past.row(3);
        past.x.pass(1);
        past.row(1);
        past.x.withdraw(0);
        past.x.set(3, 1);
        past.x.lot(9);
        CHECKS.due("TODAY", past.x.noise(0, 0, 0), 10);
    }

    private static void noiseIsNotBelowZero() {
        CHECKS.sentence("Term IV", "FIGURE (TODAY, FILLING 0) and LOT together, 0 at least");
        for (int v = -9; v <= 9; v++) {
            CHECKS.dueWith(noisy(1, v).x, "5 and " + v, noisy(1, v).x.noise(0, 0, 0), Math.max(0, 5 + v), 0);
            CHECKS.dueWith(noisy(1, v).x, "0 and " + v, noisy(1, v).x.noise(0, 2, 2), Math.max(0, v), 0);
        }
    }

    private static void noiseToldAgain() {
        CHECKS.sentence("Term IV", "Told again as long as the FIGURE is the same (and no LOT or BUDGET is needed): what was told at last");
        CountOffice x = noisy(2, 3, -9).x;
        x.noise(0, 0, 0);
        CHECKS.due("0 at least", x.noise(0, 0, 2), 0);
        for (int k = 0; k < 3; k++) {
            CHECKS.dueWith(x, "told again", x.noise(0, 0, 0), 8, 0);
            CHECKS.dueWith(x, "told again, though 0", x.noise(0, 0, 2), 0, 0);
        }
        x.set(3, 9);
        x.lot(1);
        CHECKS.due("told again, though there is BUDGET and a LOT", x.noise(0, 0, 0), 8);
        CHECKS.due("BUDGET", x.count(9), 9);
        CHECKS.due("LOTS", x.count(8), 1);
        x.weight(0, 6);
        CHECKS.dueWith(x, "another FIGURE: 6 and 1", x.noise(0, 0, 0), 7, 0);
        CHECKS.due("told again at last", x.noise(0, 0, 0), 7);
        x.weight(0, 5);
        CHECKS.dueWith(x, "another FIGURE needs a LOT", x.noise(0, 0, 0), NO, 5);
        x.weight(0, 6);
        CHECKS.dueWith(x, "what is refused tells nothing: 6 and 1 still", x.noise(0, 0, 0), 7, 0);
        x.weight(0, 5);
        x.lot(2);
        CHECKS.due("what was told of it ahead isn't told at last: 5 and 2", x.noise(0, 0, 0), 7);
        CHECKS.due("LOTS", x.count(8), 0);
    }

    private static void noiseOfTheCell() {
        CHECKS.sentence("Term IV", "what was told for that CELL of that TABLE");
        Desk desk = noisy(9, 1, 2, 3, 4);
        CountOffice x = desk.x;
        CHECKS.due("a CELL", x.noise(0, 0, 0), 6);
        CHECKS.due("a CELL of another TABLE", x.noise(1, 0, 0), 4);
        CHECKS.due("another CELL", x.noise(0, 0, 1), 3);
        CHECKS.due("its column for its line", x.noise(0, 1, 0), 4);
        CHECKS.due("LOTS", x.count(8), 0);
        CHECKS.due("told again", x.noise(0, 0, 0), 6);
        CHECKS.due("told again", x.noise(1, 0, 0), 4);
        CHECKS.due("told again", x.noise(0, 0, 1), 3);
        CHECKS.due("told again", x.noise(0, 1, 0), 4);
        desk.book(Lands.BOOK);
        desk.table(Lands.CROSS);
        x.set(3, 5);
        CHECKS.dueWith(x, "of another BOOK nothing was told", x.noise(0, 0, 1), NO, 5);
    }

    private static void noiseIsRefused() {
        CHECKS.sentence("Promise 31", "-2^63: 1; 5");
        for (int t : new int[] {-1, 4, 8, LOWEST, HIGHEST}) {
            BUSY.noFigure("noise(" + t + ", 0, 0)", x -> x.noise(t, 0, 0), 1);
        }
        for (int v : new int[] {-1, 3, LOWEST, HIGHEST}) {
            BUSY.noFigure("noise(0, " + v + ", 0)", x -> x.noise(0, v, 0), 1);
            BUSY.noFigure("noise(0, 0, " + v + ")", x -> x.noise(0, 0, v), 1);
        }
        BUSY.noFigure("noise(2, 1, 0): without by", x -> x.noise(2, 1, 0), 1);
        BUSY.noFigure("noise(1, 0, 1): by one", x -> x.noise(1, 0, 1), 1);
        BARE.noFigure("noise(0, 0, 0) without a TABLE: 1 comes ahead of 5", x -> x.noise(0, 0, 0), 1);
        UNTOLD.noFigure("noise(0, 0, 0) without a BOOK", x -> x.noise(0, 0, 0), 1);
    }

    private static Desk listed() {
        Desk desk = Desk.with("field a top 2 cost 1; field b top 2 cost 1; never b = 2");
        desk.table("count by a");
        desk.table("sum b by a");
        desk.table("count by a where b > 0");
        desk.row(1, 0);
        desk.row(1, 2);
        desk.row(1, 1);
        desk.row(1, -1);
        desk.row(2, 1);
        desk.row(1, 1);
        return desk;
    }

    private static void led() {
        CHECKS.sentence("Promise 32", "The ROW that is i-th (by numbers) in a CELL's FIGURE TODAY by FILLING 0 (also with VALUE 0)");
        Twins twins = new Twins(CHECKS, GuardBoundTests::listed);
        int[][] due = {{0, 2, 3, 5}, {0, 2, 5}, {2, 5}};
        for (int t = 0; t < due.length; t++) {
            int of = t;
            for (int k = 0; k < due[t].length; k++) {
                int kth = k;
                twins.quiet("led(" + t + ", 1, 0, " + k + ")", x -> x.led(of, 1, 0, kth), due[t][k]);
            }
            for (int k : new int[] {-1, due[t].length, LOWEST, HIGHEST}) {
                twins.quiet("led(" + t + ", 1, 0, " + k + ")", x -> x.led(of, 1, 0, k), Twins.THROWN);
            }
        }
        Desk desk = listed();
        desk.x.pass(1);
        desk.x.withdraw(0);
        CHECKS.dueLed(desk.x, 1, 1, 0, 0, 2);
        desk.x.fill(3, 0);
        CHECKS.dueLed(desk.x, 1, 1, 0, 1, 3);
        CHECKS.dueNotLed(desk.x, 1, 1, 0, 3);
        Desk two = Desk.with("field a top 1 cost 1; field b top 1 cost 1");
        two.table("count by a");
        two.row(-1, 0);
        two.row(0, 0);
        two.row(1, 0);
        two.x.fill(0, 1);
        CHECKS.dueLed(two.x, 0, 1, 0, 0, 0);
        CHECKS.dueLed(two.x, 0, 0, 0, 0, 1);
        Desk full = Desk.with("field a top 1 cost 1");
        full.table("count");
        full.rows(60, 1);
        CHECKS.dueLed(full.x, 0, 0, 0, 59, 59);
        CHECKS.dueNotLed(full.x, 0, 0, 0, 60);
    }

    private static void ledIsNone() {
        CHECKS.sentence("Promise 32", "NoSuchElementException if there is none such");
        Twins twins = new Twins(CHECKS, GuardBoundTests::listed);
        int[][] none = {{-1, 1, 0}, {3, 1, 0}, {8, 0, 0}, {LOWEST, 0, 0}, {HIGHEST, 0, 0}, {0, -1, 0}, {0, 3, 0}, {0, 0, 0},
            {0, LOWEST, 0}, {0, HIGHEST, 0}, {0, 1, -1}, {0, 1, 1}, {0, 1, LOWEST}, {0, 1, HIGHEST}, {2, 0, 0}};
        for (int[] of : none) {
            twins.quiet("led(" + of[0] + ", " + of[1] + ", " + of[2] + ", 0)", x -> x.led(of[0], of[1], of[2], 0),
                    Twins.THROWN);
        }
        BARE.quiet("led(0, 0, 0, 0) without a TABLE", x -> x.led(0, 0, 0, 0), Twins.THROWN);
        UNTOLD.quiet("led(0, 0, 0, 0) without a BOOK", x -> x.led(0, 0, 0, 0), Twins.THROWN);
    }
}
