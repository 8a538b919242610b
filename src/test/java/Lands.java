/** Offices in the midst of their work, made by the same calls each time. */
final class Lands {
    static final String BOOK = "field a top 2 cost 2; field b top 2 cost 1; field c top 1 cost 3;"
            + "never a = 2 and b = 2; never b = 1 and a = 1";
    static final String CROSS = "count by a, b";

    private Lands() {
    }

    /** Four TABLES, seven ROWS (0 and 4, 5 whole, 1 MENDED, 2 FILLED, 3 WITHDRAWN, 6 BROKEN), DAY 5, and all else told. */
    static Desk busy() {
        Desk desk = Desk.with(BOOK);
        desk.table(CROSS);
        desk.table("sum b by a");
        desk.table("count where b > 0");
        desk.table("count by a, b where c = 1");
        desk.row(0, 0, 0);
        desk.row(2, 2, 1);
        desk.row(1, -1, 1);
        desk.row(0, 1, 0);
        desk.x.pass(3);
        desk.row(1, 2, 1);
        desk.row(-1, 0, 0);
        desk.row(2, 2, 0);
        tellAll(desk.x);
        desk.x.pass(2);
        desk.x.mend(1);
        desk.x.fill(2, 1);
        desk.x.withdraw(3);
        return desk;
    }

    private static void tellAll(CountOffice x) {
        x.weight(0, 4);
        x.weight(4, 2);
        x.known(0, 0, 30);
        x.known(0, 1, 50);
        x.group(0, 1, 2);
        x.set(0, 2);
        x.set(1, 1);
        x.set(2, 20);
        x.lot(3);
        x.lot(-2);
        x.set(3, 5);
        x.noise(0, 0, 0);
    }

    /** The same with a TABLE's text on THE TAPE, twenty bytes. */
    static Desk withTape() {
        Desk desk = busy();
        desk.feed("sum b by b, c");
        return desk;
    }

    /** A BOOK alone. */
    static Desk bare() {
        return Desk.with(BOOK);
    }

    /** No BOOK, and twenty bytes on THE TAPE. */
    static Desk withoutBook() {
        Desk desk = new Desk();
        desk.feed("field q top 1 cost 1");
        return desk;
    }

    /** A GUARDED TABLE by r and c that counts so many ROWS in its CELLS. */
    static Desk squares(int[][] counts) {
        Desk desk = Desk.with("field r top " + (counts.length - 1) + " cost 1; field c top " + (counts[0].length - 1)
                + " cost 1");
        desk.table("count by r, c");
        for (int r = 0; r < counts.length; r++) {
            for (int c = 0; c < counts[r].length; c++) {
                desk.rows(counts[r][c], r, c);
            }
        }
        return desk;
    }
}
