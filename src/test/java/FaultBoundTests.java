/** Term I, FAULTS: their order, their places; promises 3 to 7: what a text that is refused leaves as it was. */
public final class FaultBoundTests {
    private static final String A = "field a top 1 cost 1";
    private static final String B = "field b top 1 cost 1";
    private static final String SIX = A + ";" + B + ";field c top 1 cost 1;field d top 1 cost 1;field e top 1 cost 1;"
            + "field f top 1 cost 1";
    private static final Checks CHECKS = new Checks("FaultBoundTests");
    private static final Twins TWINS = new Twins(CHECKS, Lands::busy);
    private static final Twins TAPED = new Twins(CHECKS, Lands::withTape);
    private static final Twins UNTOLD = new Twins(CHECKS, Lands::withoutBook);
    private static final Twins UNSEEN = new Twins(CHECKS, Desk::new);

    public static void main(String[] args) {
        firstFromTheLeft();
        leastOfOnePlace();
        formBeforeAll();
        end();
        untoldName();
        untoldNameOfATable();
        namesOfAnotherBook();
        toldAgain();
        sameBy();
        outOfBounds();
        manyPlaces();
        bookNumbers();
        bookKeepsTheTape();
        bookEmptiesTheTape();
        bookStays();
        bookBeginsAnew();
        tableWithoutBook();
        tableNumbers();
        tableEmptiesTheTape();
        tableRoom();
        fault();
        where();
        field();
        CHECKS.close();
    }

    private static void book(String text, int fault, int place) {
        TWINS.faulty(true, text, fault, place);
    }

    /** Of a BOOK of three FIELDS: a, b and c. */
    private static void table(String text, int fault, int place) {
        TWINS.faulty(false, text, fault, place);
    }

    private static void firstFromTheLeft() {
        CHECKS.sentence("Term I", "FAULTS, the first that is met from the left");
        book("field a top 10 cost 10; never", 4, 12);
        book("field a top 10 coast 1", 4, 12);
        book("field a tops 10 cost 1", 1, 8);
        book("field a top 1 cost 0; never b = 100", 4, 19);
        book(A + "; never b = 100", 2, 28);
        book(A + "; never a = 100 and b = 1", 4, 32);
        book(A + "; never a = b and a = 100", 2, 32);
        book(A + "; field a top 10 cost 1", 3, 28);
        book(A + "; field b top 10 cost 1; field b", 4, 34);
        book(SIX + ";field g top 0 cost 0", 5, SIX.length() + 7);
        book(SIX + ";never h=1;field g top 1 cost 1", 2, SIX.length() + 7);
        book(A + "; never ! and b = 1", 1, 28);
        book(A + ";never a=1".repeat(12) + ";never b=1", 5, 20 + 120 + 1);
        book(A + ";never a=1" + " and a=1".repeat(12) + ";never b=1", 5, 30 + 88 + 5);
        table("sum d by e", 2, 4);
        table("sum a by d,d", 2, 9);
        table("count by a,a where d=1", 3, 11);
        table("count by a,d where d=100", 2, 11);
        table("count where a=100 and d=1", 4, 14);
        table("count where d=100", 2, 12);
        table("counts where d=100", 1, 0);
    }

    private static void leastOfOnePlace() {
        CHECKS.sentence("Term I", "of one place the least number");
        book(SIX + ";field where top 1 cost 1", 1, SIX.length() + 7);
        book(SIX + ";field ninechars", 1, SIX.length() + 7);
        book(SIX + ";field f top 1 cost 1", 3, SIX.length() + 7);
        book(SIX + ";field g top 1 cost 1", 5, SIX.length() + 7);
        String twelve = A + ";never a=1" + " and a=1".repeat(11);
        book(twelve + " and by=1", 1, twelve.length() + 5);
        book(twelve + " and 1=a", 1, twelve.length() + 5);
        book(twelve + " and b=1", 2, twelve.length() + 5);
        book(twelve + " and a=1", 5, twelve.length() + 5);
        String full = "field a top 9 cost 1;field b top 9 cost 1;field c top 9 cost 1;field d top 9 cost 1;field e top ";
        book(full + "x cost 1", 1, full.length());
        book(full + "00010 cost 1", 1, full.length());
        book(full + "10 cost 1", 4, full.length());
        book(full + "0 cost 1", 4, full.length());
        book(full + "2 cost 1", 5, full.length());
        String where = "count where a=1" + " and a=1".repeat(11);
        table(where + " and count=1", 1, where.length() + 5);
        table(where + " and d=1", 2, where.length() + 5);
        table(where + " and c=1", 5, where.length() + 5);
    }

    private static void formBeforeAll() {
        CHECKS.sentence("Term I", "1 FORM: the first byte that begins no TOKEN, or TOKEN with which no BOOK (no TABLE) goes on");
        book("field a top 1 cost 1 %", 1, 21);
        book("field a % top 1 cost 1", 1, 8);
        book("% field a top 1 cost 1", 1, 0);
        book("field a top a cost 1", 1, 12);
        book("field a top 1 cost a", 1, 19);
        book(A + "; never b % 1", 2, 28);
        book(A + "; never a % 1", 1, 30);
        book(A + "; never a = %", 1, 32);
        book("field abcdefghi top 1 cost 1", 1, 6);
        book("field a top 12345 cost 1", 1, 12);
        table("count %", 1, 6);
        table("count by a, %", 1, 12);
        table("sum % by a", 1, 4);
        table("count where a < %", 1, 16);
    }

    private static void end() {
        CHECKS.sentence("Term I", "(the end: its place)");
        book("", 1, 0);
        book(" ", 1, 1);
        book("field", 1, 5);
        book("field ", 1, 6);
        book("field a top 1 cost", 1, 18);
        book("field a top 1 cost     ", 1, 23);
        book(A + ";", 1, 21);
        book(A + ";          ", 1, 31);
        table("", 1, 0);
        table("   ", 1, 3);
        table("sum", 1, 3);
        table("sum  ", 1, 5);
        table("count by a,", 1, 11);
        table("count where a=", 1, 14);
        CountOffice x = new CountOffice();
        for (int k = 0; k < 25; k++) {
            x.feed(0x20202020, 0x20202020, 0x20202020, 0x20202020, 0x20202020);
        }
        CHECKS.dueWith(x, "book(500) of blanks", x.book(500), -1, 4);
        CHECKS.due("where()", x.where(), 500);
        Desk cut = Lands.busy();
        cut.feed(A + "; never a = 1");
        CHECKS.dueWith(cut.x, "book(32): the end is n", cut.x.book(32), -1, 4);
        CHECKS.due("where()", cut.x.where(), 32);
    }

    private static void untoldName() {
        CHECKS.sentence("Term I", "2 a NAME that is no FIELD told ahead; at it");
        book("never a = 1;" + A, 2, 6);
        book(A + ";never b = 1;" + B, 2, 27);
        book(A + ";never a = b;" + B, 2, 31);
        book(A + ";never a = 1 and b = 1;" + B, 2, 37);
        book(A + ";never a = aa", 2, 31);
        book(A + ";never top = 1", 2, 27);
        CHECKS.due("told ahead", new Desk().book(A + ";" + B + ";never b = 1 and a = b"), 2);
        CHECKS.due("told ahead, one line", new Desk().book(A + ";never a = a"), 1);
    }

    private static void untoldNameOfATable() {
        CHECKS.sentence("Term I", "2 a NAME that is no FIELD (of a TABLE: none of the BOOK); at it");
        table("sum d", 2, 4);
        table("count by d", 2, 9);
        table("count by a, d", 2, 12);
        table("count where d = 1", 2, 12);
        table("count where a = d", 2, 16);
        table("count where a = 1 and d = 1", 2, 22);
        table("count where a = 1 and a = d", 2, 26);
        table("count by d, d", 2, 9);
        CHECKS.due("of the BOOK", Lands.busy().table("sum c by b, a where c = a and b < c"), 4);
    }

    private static void namesOfAnotherBook() {
        CHECKS.sentence("Term I", "2 of a TABLE: none of the BOOK; what a text that isn't the BOOK told is of no matter");
        Desk desk = Desk.with(A);
        CHECKS.due("another BOOK", desk.book(B), 1);
        CHECKS.dueWith(desk.x, "a FIELD of the BOOK ahead", desk.table("count by a"), -1, 4);
        CHECKS.due("fault()", desk.x.fault(), 2);
        CHECKS.due("a text with a FAULT", desk.book("field c top 1 cost 1;field d top 1"), -1);
        CHECKS.dueWith(desk.x, "a FIELD of a text with a FAULT", desk.table("count by c"), -1, 4);
        CHECKS.due("a FIELD of the BOOK that stays", desk.table("count by b"), 0);
        CHECKS.due("a NAME of a text read ahead", desk.book("field d top 1 cost 1;never c=1"), -1);
        CHECKS.due("fault()", desk.x.fault(), 2);
        CHECKS.due("told again in another text", desk.book(B), 1);
    }

    private static void toldAgain() {
        CHECKS.sentence("Term I", "3 a NAME of a FIELD told again; at it");
        book(A + ";" + A, 3, 27);
        book(A + ";field a", 3, 27);
        book(A + ";" + B + ";" + A, 3, 48);
        book(A + ";" + B + ";" + B, 3, 48);
        book(A + ";never a=1;" + A, 3, 37);
        book(SIX + ";" + A, 3, SIX.length() + 7);
        CHECKS.due("another NAME", new Desk().book(A + ";field aa top 1 cost 1"), 2);
    }

    private static void sameBy() {
        CHECKS.sentence("Term I", "3 the second NAME of by that is the first; at it");
        table("count by a, a", 3, 12);
        table("count by c,c", 3, 11);
        table("sum a by b , b where a = 1", 3, 13);
        Desk desk = Lands.busy();
        CHECKS.due("the NAME of sum is of no matter", desk.table("sum a by b, a where a = a"), 4);
    }

    private static void outOfBounds() {
        CHECKS.sentence("Term I", "4 a top, cost, or THING out of bounds; at it");
        book("field a top 0 cost 1", 4, 12);
        book("field a   top   10   cost 1", 4, 16);
        book("field a top 1 cost 0", 4, 19);
        book("field a top 1 cost    10", 4, 22);
        book(A + ";never a=100", 4, 29);
        book(A + ";never a =  100", 4, 32);
        table("count where a<100", 4, 14);
        table("count where a <   9999 and", 4, 18);
        CHECKS.due("within", new Desk().book("field a top 9 cost 9;never a=99;field b top 1 cost 1;never b>0"), 2);
    }

    private static void manyPlaces() {
        CHECKS.sentence("Term I", "5 MANY: a seventh FIELD, at its NAME; a thirteenth never, at it; a thirteenth ONE, at its NAME; a top, at it");
        book(SIX + ";field   g", 5, SIX.length() + 9);
        String rules = A + ";never a=1".repeat(12);
        book(rules + ";   never a=1", 5, rules.length() + 4);
        String ones = A + ";never a=1" + " and a=1".repeat(11);
        book(ones + "   and   a=1", 5, ones.length() + 9);
        book(ones + " and a!", 5, ones.length() + 5);
        String nines = "field a top 9 cost 1;field b top 9 cost 1;field c top 9 cost 1;field d top 9 cost 1";
        book(nines + ";field e top   2 cost 1", 5, nines.length() + 15);
        book(nines + ";field e top 2!", 5, nines.length() + 13);
    }

    private static void bookNumbers() {
        CHECKS.sentence("Promise 3", "The first n bytes of THE TAPE; NONE: 2 (THE TAPE stays)");
        TAPED.none("book(-1)", x -> x.book(-1), 2);
        TAPED.none("book(-2147483648)", x -> x.book(Integer.MIN_VALUE), 2);
        TAPED.none("book(2147483647)", x -> x.book(Integer.MAX_VALUE), 2);
        TAPED.none("book(21) of 20 bytes", x -> x.book(21), 2);
        UNTOLD.none("book(21) without a BOOK", x -> x.book(21), 2);
        Desk desk = Lands.withTape();
        CHECKS.dueWith(desk.x, "book(20) of 20 bytes: they are no BOOK", desk.x.book(20), -1, 4);
        CHECKS.dueWith(desk.x, "book(1) of no bytes", desk.x.book(1), -1, 2);
        CHECKS.dueWith(desk.x, "book(0) of no bytes", desk.x.book(0), -1, 4);
        CHECKS.due("where()", desk.x.where(), 0);
        Desk full = new Desk();
        full.feed(" ".repeat(480) + A);
        CHECKS.dueWith(full.x, "book(501)", full.x.book(501), -1, 2);
        CHECKS.dueWith(full.x, "book(500)", full.x.book(500), 1, 0);
    }

    private static void bookKeepsTheTape() {
        CHECKS.sentence("Promise 3", "NONE: 2 (THE TAPE stays): its bytes, too");
        Desk desk = new Desk();
        desk.feed(A);
        CHECKS.dueWith(desk.x, "book(21)", desk.x.book(21), -1, 2);
        CHECKS.due("count(10)", desk.x.count(10), 20);
        CHECKS.dueWith(desk.x, "book(-1)", desk.x.book(-1), -1, 2);
        desk.feed(";field b top 7 cost 1");
        CHECKS.due("count(10)", desk.x.count(10), 60);
        CHECKS.due("what stands on it still: book(60)", desk.x.book(60), 2);
        CHECKS.due("field(1, 0)", desk.x.field(1, 0), 7);
    }

    private static void bookEmptiesTheTape() {
        CHECKS.sentence("Promise 3", "The first n bytes of THE TAPE (it is empty then) are the BOOK");
        Desk desk = new Desk();
        desk.feed(A + ";" + B);
        CHECKS.dueWith(desk.x, "book(20) of 60 bytes", desk.x.book(20), 1, 0);
        CHECKS.due("count(10)", desk.x.count(10), 0);
        CHECKS.dueWith(desk.x, "book(1)", desk.x.book(1), -1, 2);
        desk.feed(A + ";" + B);
        CHECKS.dueWith(desk.x, "book(19) with a FAULT", desk.x.book(19), -1, 4);
        CHECKS.due("count(10)", desk.x.count(10), 0);
        desk.feed(B);
        CHECKS.due("THE TAPE begins anew: book(20)", desk.x.book(20), 1);
    }

    private static void bookStays() {
        CHECKS.sentence("Promise 3", "NONE: 4 (the BOOK stays)");
        book("field z top 9 cost 9;", 1, 21);
        book("field z top 9 cost 9;never a=1", 2, 27);
        book("field z top 9 cost 9;field z", 3, 27);
        book("field z top 9 cost 0;never z=1", 4, 19);
        book("field z top 9 cost 9" + ";never z=1".repeat(13), 5, 141);
        Desk desk = Lands.busy();
        desk.book("field z top 9 cost 9;field y top 9 cost 9;never z=1;never z=2;never z=3;never");
        CHECKS.due("FIELDS", desk.x.count(0), 3);
        CHECKS.due("RULES", desk.x.count(1), 2);
        CHECKS.due("tops", desk.x.field(0, 0), 2);
        CHECKS.due("costs", desk.x.field(1, 1), 1);
        CHECKS.due("the RULE that holds", desk.x.of(6, 6), 0);
        UNSEEN.faulty(true, "field z top 9 cost 9;never", 1, 26);
    }

    private static void bookBeginsAnew() {
        CHECKS.sentence("Promise 3", "from now on (no ROWS, TABLES; DAY 0; known sums, GROUPS, LOTS, BUDGET 0, MIN 3, WIDTH 3, M 10)");
        Desk anew = Lands.busy();
        CHECKS.due("giver() of the BOOK ahead", anew.x.giver(), 0);
        CHECKS.dueWith(anew.x, "another BOOK", anew.book(Lands.BOOK), 3, 0);
        int[] due = {3, 2, 0, 0, 0, 0, 0, 0, 0, 0, 0};
        for (int what = 0; what < due.length; what++) {
            CHECKS.due("count(" + what + ")", anew.x.count(what), due[what]);
        }
        CHECKS.due("no ROW", anew.x.of(0, 0), -1);
        CHECKS.dueWith(anew.x, "no TABLE", anew.x.figure(0, 0, 0, 0, 0), Checks.NO_FIGURE, 1);
        Twins.alike(CHECKS, "another BOOK", begun(Lands.busy()).x, begun(withGiver()).x);
        Twins.alike(CHECKS, "another BOOK, with ROWS and TABLES", atWork(begun(Lands.busy())).x,
                atWork(begun(withGiver())).x);
        CountOffice x = atWork(begun(Lands.busy())).x;
        CHECKS.due("GROUPS are 0: LIKE", x.small(1, 0, 0, 2), 500);
        CHECKS.due("M 10: 3 by 13", x.small(1, 0, 0, 3), 230);
        CHECKS.due("MIN 3: CELLS of 1 and 2 are SHY", x.shy(0), 4);
        CHECKS.due("WIDTH 3: 0 to 2", x.wide(0, 511), 0);
        CHECKS.dueWith(x, "no known sums", x.agreed(0, 0, 0, true), Checks.NO_FIGURE, 5);
        x.known(0, 2, 5);
        CHECKS.due("the sums told ahead are 0", x.agreed(1, 0, 0, false), 0);
        x.set(3, 1);
        CHECKS.dueWith(x, "no LOTS", x.noise(0, 0, 0), Checks.NO_FIGURE, 5);
    }

    /** Another BOOK leaves the GIVER; this office has that of the busy one, and nothing else. */
    private static Desk withGiver() {
        Desk desk = Desk.with("field a top 1 cost 1; never a = 1");
        desk.row(0);
        desk.row(1);
        desk.x.mend(1);
        return desk;
    }

    private static Desk begun(Desk desk) {
        desk.book(Lands.BOOK);
        return desk;
    }

    private static Desk atWork(Desk desk) {
        desk.table(Lands.CROSS);
        desk.table("count where b < 2");
        desk.row(0, 0, 0);
        desk.row(0, 1, 0);
        desk.row(0, 1, -1);
        desk.row(1, 0, 1);
        desk.row(1, 2, 1);
        desk.row(2, 2, -1);
        return desk;
    }

    private static void tableWithoutBook() {
        CHECKS.sentence("Promise 4", "NONE: 1 (no BOOK; THE TAPE stays)");
        UNTOLD.none("table(20)", x -> x.table(20), 1);
        UNTOLD.none("table(0)", x -> x.table(0), 1);
        UNTOLD.none("table(-1): 1 comes ahead of 2", x -> x.table(-1), 1);
        UNTOLD.none("table(21): 1 comes ahead of 2", x -> x.table(21), 1);
        Desk desk = Lands.withoutBook();
        desk.x.table(20);
        CHECKS.due("count(10)", desk.x.count(10), 20);
        CHECKS.due("what stands on it still: book(20)", desk.x.book(20), 1);
        CHECKS.due("with a BOOK", desk.table("count"), 0);
        Desk failed = new Desk();
        failed.book("field");
        CHECKS.dueWith(failed.x, "a text with a FAULT is no BOOK", failed.table("count"), -1, 1);
    }

    private static void tableNumbers() {
        CHECKS.sentence("Promise 4", "NONE: 2 (THE TAPE stays)");
        TAPED.none("table(-1)", x -> x.table(-1), 2);
        TAPED.none("table(-2147483648)", x -> x.table(Integer.MIN_VALUE), 2);
        TAPED.none("table(2147483647)", x -> x.table(Integer.MAX_VALUE), 2);
        TAPED.none("table(21) of 20 bytes", x -> x.table(21), 2);
        Desk desk = Lands.withTape();
        desk.x.table(21);
        CHECKS.due("count(10)", desk.x.count(10), 20);
        CHECKS.dueWith(desk.x, "table(20) of 20 bytes", desk.x.table(20), 4, 0);
        CHECKS.dueWith(desk.x, "table(1) of no bytes", desk.x.table(1), -1, 2);
        CHECKS.dueWith(desk.x, "table(0) of no bytes", desk.x.table(0), -1, 4);
        CHECKS.due("where()", desk.x.where(), 0);
    }

    private static void tableEmptiesTheTape() {
        CHECKS.sentence("Promise 4", "Likewise a TABLE: its number");
        Desk desk = Lands.bare();
        desk.feed("count by a, b");
        CHECKS.dueWith(desk.x, "table(5) of 20 bytes", desk.x.table(5), 0, 0);
        CHECKS.due("count(10)", desk.x.count(10), 0);
        CHECKS.dueWith(desk.x, "the first bytes alone", desk.x.figure(0, 1, 0, 0, 0), Checks.NO_FIGURE, 1);
        desk.feed("count by a, b");
        CHECKS.dueWith(desk.x, "table(11) with a FAULT", desk.x.table(11), -1, 4);
        CHECKS.due("count(10)", desk.x.count(10), 0);
        CHECKS.due("count(3)", desk.x.count(3), 1);
        CHECKS.due("the next number", desk.table("count by a, b"), 1);
    }

    private static Desk withTables(int tables) {
        Desk desk = Lands.bare();
        for (int k = 0; k < tables; k++) {
            desk.table(k == 0 ? Lands.CROSS : "sum b by a");
        }
        desk.row(1, 2, 0);
        return desk;
    }

    private static void tableRoom() {
        CHECKS.sentence("Term III and promise 4", "TABLES: up to 8. NONE: 1; 2; 4; 3");
        for (int tables = 0; tables < 8; tables++) {
            CHECKS.dueWith(withTables(tables).x, "TABLES", withTables(tables).table("count"), tables, 0);
        }
        Desk desk = withTables(8);
        CHECKS.dueWith(desk.x, "a ninth", desk.table("count"), -1, 3);
        CHECKS.due("where()", desk.x.where(), -1);
        CHECKS.due("count(10): THE TAPE is empty", desk.x.count(10), 0);
        CHECKS.due("count(3)", desk.x.count(3), 8);
        Twins.alike(CHECKS, "a ninth TABLE", desk.x, withTables(8).x);
        Twins full = new Twins(CHECKS, () -> withTables(8));
        full.faulty(false, "count by z", 2, 9);
        full.faulty(false, "", 1, 0);
        full.none("table(1): 2 comes ahead of 3", x -> x.table(1), 2);
        Desk eighth = withTables(8);
        CHECKS.due("the eighth is there", eighth.x.figure(7, 1, 0, 0, 0), 2);
        CHECKS.dueWith(eighth.x, "a ninth isn't", eighth.x.figure(8, 0, 0, 0, 0), Checks.NO_FIGURE, 1);
    }

    private static void fault() {
        CHECKS.sentence("Promise 5", "The FAULT of the latest book(), table() not refused by 1, 2; 0 without one");
        Desk desk = new Desk();
        CountOffice x = desk.x;
        CHECKS.due("fault() of a new object", x.fault(), 0);
        x.table(0);
        CHECKS.due("behind a table() by 1", x.fault(), 0);
        desk.book("field a top 10");
        CHECKS.due("of a book()", x.fault(), 4);
        x.book(-1);
        CHECKS.due("behind a book() by 2", x.fault(), 4);
        x.table(0);
        CHECKS.due("behind a table() by 1", x.fault(), 4);
        desk.row(0);
        CHECKS.due("behind another call", x.fault(), 4);
        desk.book(A);
        CHECKS.due("of a book() without one", x.fault(), 0);
        desk.table("count by q");
        CHECKS.due("of a table()", x.fault(), 2);
        x.table(1);
        CHECKS.due("behind a table() by 2", x.fault(), 2);
        desk.table("count");
        CHECKS.due("of a table() without one", x.fault(), 0);
        for (int k = 1; k < 8; k++) {
            desk.table("count");
        }
        desk.table("count by a,a");
        CHECKS.due("of a table() that had no room either", x.fault(), 3);
        desk.table("count");
        CHECKS.dueWith(x, "fault() of a table() by 3: it has none", x.fault(), 0, 3);
    }

    private static void where() {
        CHECKS.sentence("Promise 6", "Its place, if the latest call that may be refused was by 4; NONE else");
        Desk desk = new Desk();
        CountOffice x = desk.x;
        CHECKS.due("where() of a new object", x.where(), -1);
        desk.book("field a top 10");
        CHECKS.due("behind a book() by 4", x.where(), 12);
        x.count(0);
        x.fault();
        x.trouble();
        x.feed(0, 0, 0, 0, 0);
        x.giver();
        x.of(0, 0);
        x.value(0, 0, 0, 0);
        x.field(0, 0);
        CHECKS.dueNotLed(x, 0, 0, 0, 0);
        CHECKS.due("behind calls that may not be refused", x.where(), 12);
        x.book(-1);
        CHECKS.due("behind a book() by 2", x.where(), -1);
        CHECKS.due("though the FAULT stays", x.fault(), 4);
        x.book(20);
        CHECKS.due("of place 0", x.where(), 0);
        x.pass(1);
        CHECKS.due("behind a pass() by 1", x.where(), -1);
        desk.book(A);
        CHECKS.due("behind a book() not refused", x.where(), -1);
        desk.table("count by q");
        CHECKS.due("behind a table() by 4", x.where(), 9);
        desk.row(0);
        CHECKS.due("behind a row() not refused", x.where(), -1);
    }

    private static void field() {
        CHECKS.sentence("Promise 7", "Of a FIELD what 0 top, 1 cost. NONE");
        Twins busy = TWINS;
        int[][] due = {{2, 2}, {2, 1}, {1, 3}};
        for (int f = 0; f < due.length; f++) {
            for (int what = 0; what < 2; what++) {
                int[] of = {f, what};
                busy.quiet("field(" + f + ", " + what + ")", x -> x.field(of[0], of[1]), due[f][what]);
            }
        }
        int[][] none = {{-1, 0}, {3, 0}, {3, 1}, {6, 0}, {0, -1}, {0, 2}, {2, 2}, {Integer.MAX_VALUE, 0},
            {Integer.MIN_VALUE, 1}, {0, Integer.MAX_VALUE}, {0, Integer.MIN_VALUE}};
        for (int[] of : none) {
            busy.quiet("field(" + of[0] + ", " + of[1] + ")", x -> x.field(of[0], of[1]), -1);
        }
        UNTOLD.quiet("field(0, 0) without a BOOK", x -> x.field(0, 0), -1);
    }
}
