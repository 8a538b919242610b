/** Promises 1 to 7: the book. */
public final class BookTests {
    private static final String A = "field a top 1 cost 1";
    private static final Checks CHECKS = new Checks("BookTests");

    public static void main(String[] args) {
        newObject();
        feed();
        book();
        bookBeginsAnew();
        table();
        tableForgets();
        tableRoom();
        form();
        names();
        bounds();
        many();
        faultAndWhere();
        field();
        CHECKS.close();
    }

    private static void newObject() {
        CHECKS.promise(1, "a new object");
        CountOffice x = new CountOffice();
        CHECKS.due("trouble()", x.trouble(), 0);
        CHECKS.due("fault()", x.fault(), 0);
        CHECKS.due("where()", x.where(), -1);
        CHECKS.due("giver()", x.giver(), -1);
        for (int what = 0; what <= 10; what++) {
            CHECKS.due("count(" + what + ")", x.count(what), 0);
        }
        CHECKS.due("field(0, 0)", x.field(0, 0), -1);
        CHECKS.due("value(0, 0, 0, 0)", x.value(0, 0, 0, 0), -2);
        CHECKS.due("of(0, 0)", x.of(0, 0), -1);
        CHECKS.dueWith(x, "row()", x.row(0, 0, 0, 0, 0, 0), -1, 1);
        CHECKS.dueWith(x, "table(0)", x.table(0), -1, 1);
        CHECKS.dueWith(x, "weight(0, 1)", x.weight(0, 1), false, 1);
        CHECKS.dueWith(x, "known(0, 0, 0)", x.known(0, 0, 0), false, 1);
        CHECKS.dueWith(x, "group(0, 0, 0)", x.group(0, 0, 0), false, 1);
        CHECKS.dueWith(x, "set(0, 3)", x.set(0, 3), false, 1);
        CHECKS.dueWith(x, "lot(0)", x.lot(0), -1, 1);
        CHECKS.dueWith(x, "pass(1)", x.pass(1), -1, 1);
        CHECKS.dueWith(x, "shy(0)", x.shy(0), -1, 1);
        CHECKS.dueNotLed(x, 0, 0, 0, 0);
    }

    private static void feed() {
        CHECKS.promise(2, "feed");
        Desk desk = new Desk();
        CountOffice x = desk.x;
        for (int k = 1; k <= 25; k++) {
            CHECKS.due("feed " + k, x.feed(0x20202020, 0x20202020, 0x20202020, 0x20202020, 0x20202020), 20 * k);
        }
        CHECKS.due("a feed too much", x.feed(1, 2, 3, 4, 5), -1);
        CHECKS.due("count(10)", x.count(10), 500);
        CHECKS.due("trouble()", x.trouble(), 0);
        CHECKS.dueWith(x, "book(501)", x.book(501), -1, 2);
        CHECKS.dueWith(x, "book(500)", x.book(500), -1, 4);
        CHECKS.due("where()", x.where(), 500);
        CHECKS.due("count(10)", x.count(10), 0);
        CHECKS.due("feed: the highest byte first", x.feed(1718183276, 1679843616, 1953460256, 840983407, 1936990257), 20);
        CHECKS.due("book(20)", x.book(20), 1);
        CHECKS.due("field(0, 0)", x.field(0, 0), 2);
    }

    private static void book() {
        CHECKS.promise(3, "book");
        Desk desk = new Desk();
        CountOffice x = desk.x;
        CHECKS.dueWith(x, "two FIELDS and a RULE", desk.book("field a top 2 cost 1; field b top 9 cost 9; never a = 1"), 2, 0);
        CHECKS.due("count(0)", x.count(0), 2);
        CHECKS.due("count(1)", x.count(1), 1);
        desk.feed(A);
        CHECKS.dueWith(x, "book(-1)", x.book(-1), -1, 2);
        CHECKS.dueWith(x, "book(21)", x.book(21), -1, 2);
        CHECKS.due("THE TAPE stays", x.count(10), 20);
        CHECKS.dueWith(x, "book(19): no more of it", x.book(19), -1, 4);
        CHECKS.due("THE TAPE is empty", x.count(10), 0);
        CHECKS.due("the BOOK stays", x.count(0), 2);
        CHECKS.due("RULES stay", x.count(1), 1);
        CHECKS.due("no blanks needed", desk.book("field a top1cost1;never a=0and a<1;field top top 0002cost 9;never top>a"), 2);
        CHECKS.due("RULES", x.count(1), 2);
        CHECKS.due("a NAME may be cost", desk.book("field cost top 3 cost 4; never cost = cost"), 1);
        CHECKS.due("many blanks", desk.book("   field   abcdefgh   top   9   cost   9   "), 1);
        CHECKS.due("only the first n bytes", feedAndBook(desk, A + ";", 20), 1);
        CHECKS.due("the rest is gone", x.count(10), 0);
        CHECKS.due("n ends a WORD", feedAndBook(desk, A + ";never a=aa", 30), 1);
        CHECKS.due("n ends a WHOLE", feedAndBook(desk, "field z top 1 cost 10", 20), 1);
        CHECKS.due("NAMES of all letters", desk.book("field az top 1 cost 1; field za top 1 cost 1"), 2);
        CHECKS.due("SPACE of 20,000", desk.book("field a top 9 cost 1; field b top 9 cost 1; field c top 9 cost 1;"
                + "field d top 9 cost 1; field e top 1 cost 1"), 5);
        twelveRules(desk);
    }

    private static int feedAndBook(Desk desk, String text, int n) {
        desk.feed(text);
        return desk.x.book(n);
    }

    private static void twelveRules(Desk desk) {
        CHECKS.due("12 RULES", desk.book(A + ";never a=1".repeat(12)), 1);
        CHECKS.due("count(1)", desk.x.count(1), 12);
        CHECKS.due("12 ONES", desk.book(A + ";never a=1" + " and a=1".repeat(11)), 1);
        CHECKS.due("count(1)", desk.x.count(1), 1);
        CHECKS.due("6 FIELDS", desk.book(A + ";field b top 1 cost 1;field c top 1 cost 1;field d top 1 cost 1;"
                + "field e top 1 cost 1;field f top 1 cost 1"), 6);
    }

    private static void bookBeginsAnew() {
        CHECKS.promise(3, "book begins anew");
        Desk desk = Desk.with("field a top 2 cost 1; field b top 2 cost 1; never a = 2");
        CountOffice x = desk.x;
        desk.row(1, 1);
        desk.row(2, 1);
        desk.table("count by a, b");
        x.pass(7);
        x.known(0, 1, 50);
        x.group(0, 1, 5);
        x.lot(4);
        x.set(0, 1);
        x.set(1, 1);
        x.set(2, 99);
        x.set(3, 9);
        x.noise(0, 0, 0);
        CHECKS.due("mend(1)", x.mend(1), 1);
        CHECKS.due("giver()", x.giver(), 0);
        x.lot(4);
        CHECKS.due("a BOOK with a FAULT", desk.book("field a"), -1);
        CHECKS.due("ROWS stay", x.count(2), 2);
        CHECKS.due("TABLES stay", x.count(3), 1);
        CHECKS.due("the DAY stays", x.count(4), 7);
        CHECKS.due("LOTS stay", x.count(8), 1);
        CHECKS.due("BUDGET stays", x.count(9), 8);
        CHECKS.due("another BOOK", desk.book("field r top 2 cost 1; field c top 2 cost 1"), 2);
        for (int what = 1; what <= 10; what++) {
            CHECKS.due("count(" + what + ")", x.count(what), 0);
        }
        CHECKS.due("GIVER stays", x.giver(), 0);
        desk.row(1, 1);
        desk.row(1, 2);
        desk.row(2, 2);
        desk.table("count by r, c");
        desk.table("count where r = 1");
        CHECKS.due("MIN is 3", x.shy(0), 3);
        CHECKS.due("WIDTH is 3", x.wide(0, 511), 0);
        CHECKS.due("M is 10", x.small(1, 0, 1, 3), 2 * 1000 / 12);
        CHECKS.due("GROUPS are 0", x.small(1, 0, 2, 2), 1000);
        CHECKS.dueWith(x, "nothing AGREED", x.agreed(1, 0, 0, false), Checks.NO_FIGURE, 5);
        x.set(3, 5);
        CHECKS.dueWith(x, "no LOT", x.noise(1, 0, 0), Checks.NO_FIGURE, 5);
    }

    private static void table() {
        CHECKS.promise(4, "table");
        Desk desk = Desk.with("field a top 2 cost 1; field b top 9 cost 9");
        CountOffice x = desk.x;
        CHECKS.dueWith(x, "count", desk.table("count"), 0, 0);
        CHECKS.due("count by", desk.table("count by a"), 1);
        CHECKS.due("count by two", desk.table("count by b,a"), 2);
        CHECKS.due("sum by two where", desk.table("sum b by a , b where a = 1 and b < a and b > 3"), 3);
        CHECKS.due("count where", desk.table("count where a<99"), 4);
        CHECKS.due("sum", desk.table("sum a"), 5);
        CHECKS.due("count(3)", x.count(3), 6);
        desk.feed("count");
        CHECKS.dueWith(x, "table(21)", x.table(21), -1, 2);
        CHECKS.dueWith(x, "table(-1)", x.table(-1), -1, 2);
        CHECKS.due("THE TAPE stays", x.count(10), 20);
        CHECKS.due("table(5)", x.table(5), 6);
        CHECKS.due("THE TAPE is empty", x.count(10), 0);
        CHECKS.dueWith(x, "a FAULT", desk.table("counts"), -1, 4);
        CHECKS.due("THE TAPE is empty", x.count(10), 0);
        CHECKS.due("count(3)", x.count(3), 7);
        Desk bare = new Desk();
        bare.feed("count");
        CHECKS.dueWith(bare.x, "no BOOK", bare.x.table(5), -1, 1);
        CHECKS.due("THE TAPE stays", bare.x.count(10), 20);
        CHECKS.dueWith(bare.x, "no BOOK comes ahead of a number", bare.x.table(-5), -1, 1);
    }

    private static void tableForgets() {
        CHECKS.promise(4, "table: nothing stays of a text read ahead");
        Desk desk = Desk.with("field a top 2 cost 1; field b top 2 cost 9");
        CountOffice x = desk.x;
        desk.row(1, 2);
        CHECKS.due("a FAULT at the end", desk.table("sum b by b, a where a = 2;"), -1);
        CHECKS.due("count", desk.table("count"), 0);
        CHECKS.due("without where, by, sum", x.figure(0, 0, 0, 0, 0), 1);
        CHECKS.dueWith(x, "without by", x.figure(0, 1, 0, 0, 0), Checks.NO_FIGURE, 1);
        desk.table("sum b by b where a = 2");
        desk.book("field a top 2 cost 1; field b top 2 cost 9; never a = 0 and b = 0");
        desk.book("field a top 2 cost 1; field b top 2 cost 9; never b = 1");
        desk.row(0, 0);
        CHECKS.due("another BOOK's RULE", x.of(0, 1), 0);
        desk.table("count");
        desk.table("count");
        CHECKS.due("another BOOK's TABLES", x.figure(1, 0, 0, 0, 0), 1);
    }

    private static void tableRoom() {
        CHECKS.promise(4, "table: room");
        Desk desk = Desk.with(A);
        CountOffice x = desk.x;
        for (int k = 0; k < 8; k++) {
            CHECKS.due("table " + k, desk.table(k == 7 ? "count by a" : "count"), k);
        }
        desk.row(1);
        CHECKS.dueWith(x, "a ninth with a FAULT", desk.table("count q"), -1, 4);
        CHECKS.due("fault()", x.fault(), 1);
        CHECKS.dueWith(x, "a ninth", desk.table("count"), -1, 3);
        CHECKS.due("fault()", x.fault(), 0);
        CHECKS.due("where()", x.where(), -1);
        CHECKS.due("THE TAPE is empty", x.count(10), 0);
        CHECKS.due("count(3)", x.count(3), 8);
        CHECKS.due("the eighth stays", x.figure(7, 1, 0, 0, 0), 1);
    }

    private static void badBook(String text, int fault, int where) {
        Desk desk = new Desk();
        CHECKS.dueWith(desk.x, "book of " + text, desk.book(text), -1, 4);
        CHECKS.due("fault() of " + text, desk.x.fault(), fault);
        CHECKS.due("where() of " + text, desk.x.where(), where);
    }

    private static void badTable(String text, int fault, int where) {
        Desk desk = Desk.with("field a top 1 cost 1; field b top 1 cost 1");
        CHECKS.dueWith(desk.x, "table of " + text, desk.table(text), -1, 4);
        CHECKS.due("fault() of " + text, desk.x.fault(), fault);
        CHECKS.due("where() of " + text, desk.x.where(), where);
    }

    private static void form() {
        CHECKS.promise(5, "fault 1");
        badBook("", 1, 0);
        badBook("    ", 1, 4);
        badBook("field", 1, 5);
        badBook("fields a top 1 cost 1", 1, 0);
        badBook("Field a top 1 cost 1", 1, 0);
        badBook("field A top 1 cost 1", 1, 6);
        badBook("field abcdefghi top 1 cost 1", 1, 6);
        badBook("field a top 00001 cost 1", 1, 12);
        badBook("field a tops 1 cost 1", 1, 8);
        badBook("field a top a cost 1", 1, 12);
        badBook("field a top 1 coast 1", 1, 14);
        badBook("field a top 1 cost", 1, 18);
        badBook(A + " " + A, 1, 21);
        badBook(A + ";;" + A, 1, 21);
        badBook(A + ";", 1, 21);
        badBook(A + "; ", 1, 22);
        badBook(A + ",", 1, 20);
        badBook(A + "\n", 1, 20);
        badBook(A + "; never a <= 1", 1, 31);
        badBook(A + "; never a 1", 1, 30);
        badBook(A + "; never a", 1, 29);
        badBook(A + "; never a = ", 1, 32);
        badBook(A + "; never a = and", 1, 32);
        badBook(A + "; never a = 1 and", 1, 37);
        badBook(A + "; never a = 1 or", 1, 34);
        badBook(A + "; never a = 12345", 1, 32);
        badBook(A + "; never 1 = a", 1, 28);
        badBook(A + "; never a = 1 where", 1, 34);
        badBook(A + "; count", 1, 22);
        for (String key : new String[] {"field", "never", "and", "count", "sum", "by", "where"}) {
            badBook("field " + key + " top 1 cost 1", 1, 6);
            badBook(A + "; never " + key + " = 1", 1, 28);
            badBook(A + "; never a = " + key, 1, 32);
            badTable("sum " + key, 1, 4);
            badTable("count by " + key, 1, 9);
        }
        badTable("", 1, 0);
        badTable("number", 1, 0);
        badTable("count a", 1, 6);
        badTable("count by a b", 1, 11);
        badTable("count by a,", 1, 11);
        badTable("count by a, b, a", 1, 13);
        badTable("count;", 1, 5);
        badTable("count where a = 1;", 1, 17);
        badTable("count where a = 1 by b", 1, 18);
        badTable("count where a = 1 and", 1, 21);
        badTable("sum a b", 1, 6);
        badTable("sum a where a", 1, 13);
        badTable("count where a ! 1", 1, 14);
        badTable("count where a = 1\377", 1, 17);
    }

    private static void names() {
        CHECKS.promise(5, "faults 2 and 3");
        badBook("never a = 1", 2, 6);
        badBook("never a = 1; field a top 1 cost 1", 2, 6);
        badBook(A + "; never b = 1", 2, 28);
        badBook(A + "; never a = b", 2, 32);
        badBook(A + "; never a = aa", 2, 32);
        badBook(A + "; never a = 1 and a > b; field b top 1 cost 1", 2, 42);
        badTable("sum c", 2, 4);
        badTable("count by c", 2, 9);
        badTable("count by a, c", 2, 12);
        badTable("count where c = 1", 2, 12);
        badTable("count where a = top", 2, 16);
        badBook(A + "; field a top 1 cost 1", 3, 28);
        badBook(A + "; field a", 3, 28);
        badTable("count by a, a", 3, 12);
        badTable("sum a by b, b where", 3, 12);
        CHECKS.due("sum a by a", Desk.with(A).table("sum a by a where a = a"), 0);
    }

    private static void bounds() {
        CHECKS.promise(5, "fault 4");
        badBook("field a top 0 cost 1", 4, 12);
        badBook("field a top 10 cost 1", 4, 12);
        badBook("field a top 9999 cost 1", 4, 12);
        badBook("field a top 9 cost 0", 4, 19);
        badBook("field a top 1 cost 10", 4, 19);
        badBook(A + "; never a = 100", 4, 32);
        badTable("count where a < 100", 4, 16);
        CHECKS.due("THING 99", Desk.with(A).table("count where a < 0099"), 0);
        badBook("field a top 0 cost !", 4, 12);
    }

    private static void many() {
        CHECKS.promise(5, "fault 5");
        String six = A + ";field b top 1 cost 1;field c top 1 cost 1;field d top 1 cost 1;field e top 1 cost 1;"
                + "field f top 1 cost 1";
        badBook(six + ";field g top 1 cost 1", 5, six.length() + 7);
        badBook(six + ";field g", 5, six.length() + 7);
        badBook(six + ";field f top 1 cost 1", 3, six.length() + 7);
        badBook(six + ";field by", 1, six.length() + 7);
        String rules = A + ";never a=1".repeat(12);
        badBook(rules + ";never a=1", 5, rules.length() + 1);
        badBook(rules + ";never", 5, rules.length() + 1);
        String ones = A + ";never a=1" + " and a=1".repeat(11);
        badBook(ones + " and a=1", 5, ones.length() + 5);
        badBook(ones + " and b=1", 2, ones.length() + 5);
        badBook(ones + " and 1", 1, ones.length() + 5);
        badBook(ones + " and", 1, ones.length() + 4);
        String nines = "field a top 9 cost 1;field b top 9 cost 1;field c top 9 cost 1;field d top 9 cost 1;";
        badBook(nines + "field e top 2 cost 1", 5, nines.length() + 12);
        badBook(nines + "field e top 0 cost 1", 4, nines.length() + 12);
        badBook(nines + "field e top 10 cost 1", 4, nines.length() + 12);
        badBook(nines + "field e top 1 cost 1;field f top 1 cost 1", 5, nines.length() + 33);
        String where = "count where a=1" + " and a=1".repeat(11);
        CHECKS.due("12 ONES in a TABLE", Desk.with(A).table(where), 0);
        badTable(where + " and a=1", 5, where.length() + 5);
    }

    private static void faultAndWhere() {
        CHECKS.promise(6, "where");
        Desk desk = Desk.with(A);
        CountOffice x = desk.x;
        CHECKS.due("where() without a FAULT", x.where(), -1);
        desk.book("field a top 1 cost 77");
        CHECKS.due("where()", x.where(), 19);
        CHECKS.due("where() once more", x.where(), 19);
        x.count(0);
        x.field(0, 0);
        x.of(9, 0);
        x.value(9, 0, 0, 0);
        x.giver();
        desk.feed("x");
        CHECKS.dueNotLed(x, 0, 0, 0, 0);
        CHECKS.due("where() behind calls that are not refused", x.where(), 19);
        CHECKS.promise(5, "fault");
        CHECKS.due("fault()", x.fault(), 4);
        x.book(600);
        CHECKS.due("fault() behind a number", x.fault(), 4);
        CHECKS.promise(6, "where");
        CHECKS.due("where() behind a number", x.where(), -1);
        x.book(1);
        CHECKS.promise(5, "fault");
        CHECKS.due("fault() of another text", x.fault(), 1);
        desk.row(0);
        CHECKS.due("fault() behind a row()", x.fault(), 1);
        CHECKS.promise(6, "where");
        CHECKS.due("where() behind a row()", x.where(), -1);
        desk.table("count by a, a");
        CHECKS.due("where() of a TABLE", x.where(), 12);
        desk.table("count");
        CHECKS.promise(5, "fault");
        CHECKS.due("fault() of a TABLE without one", x.fault(), 0);
        desk.table("sum q");
        desk.book(A);
        CHECKS.due("fault() of a BOOK without one", x.fault(), 0);
    }

    private static void field() {
        CHECKS.promise(7, "field");
        CountOffice x = Desk.with("field a top 3 cost 7; field b top 9 cost 2").x;
        CHECKS.due("field(0, 0)", x.field(0, 0), 3);
        CHECKS.due("field(0, 1)", x.field(0, 1), 7);
        CHECKS.due("field(1, 0)", x.field(1, 0), 9);
        CHECKS.due("field(1, 1)", x.field(1, 1), 2);
        CHECKS.due("field(0, 2)", x.field(0, 2), -1);
        CHECKS.due("field(0, -1)", x.field(0, -1), -1);
        CHECKS.due("field(2, 0)", x.field(2, 0), -1);
        CHECKS.due("field(-1, 0)", x.field(-1, 0), -1);
        CHECKS.due("field(6, 1)", x.field(6, 1), -1);
        CHECKS.due("trouble()", x.trouble(), 0);
    }
}
