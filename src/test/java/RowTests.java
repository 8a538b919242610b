/** Promises 8 to 16: rows. */
public final class RowTests {
    private static final Checks CHECKS = new Checks("RowTests");

    public static void main(String[] args) {
        row();
        rowRoom();
        weight();
        withdraw();
        value();
        valueOnDays();
        of();
        mendTakesTheCheapest();
        mendIsRefused();
        mendKeepsGaps();
        giverIsTheNearest();
        giverMustFit();
        leastValues();
        fill();
        fillIsRefused();
        fillGivers();
        pass();
        CHECKS.close();
    }

    private static void row() {
        CHECKS.promise(8, "row");
        Desk desk = Desk.with("field a top 2 cost 1; field b top 9 cost 1");
        CountOffice x = desk.x;
        CHECKS.dueWith(x, "row 0", x.row(0, 9, 77, -5, 1000000, -2147483648), 0, 0);
        CHECKS.dueWith(x, "row 1", x.row(-1, -1, 0, 0, 0, 0), 1, 0);
        CHECKS.dueWith(x, "above the top", x.row(3, 0, 0, 0, 0, 0), -1, 2);
        CHECKS.dueWith(x, "above the other top", x.row(0, 10, 0, 0, 0, 0), -1, 2);
        CHECKS.dueWith(x, "below a GAP", x.row(-2, 0, 0, 0, 0, 0), -1, 2);
        CHECKS.dueWith(x, "far below", x.row(0, -2147483648, 0, 0, 0, 0), -1, 2);
        CHECKS.dueWith(x, "far above", x.row(2147483647, 0, 0, 0, 0, 0), -1, 2);
        CHECKS.due("count(2)", x.count(2), 2);
        CHECKS.due("WEIGHT at first", x.of(0, 5), 1);
        CHECKS.due("value(0, 1, 0, 0)", x.value(0, 1, 0, 0), 9);
        Desk six = Desk.with("field a top 1 cost 1;field b top 2 cost 1;field c top 3 cost 1;field d top 4 cost 1;"
                + "field e top 5 cost 1;field f top 6 cost 1");
        CHECKS.due("six VALUES", six.x.row(1, 2, 3, 4, 5, 6), 0);
        CHECKS.dueWith(six.x, "the sixth too high", six.x.row(1, 2, 3, 4, 5, 7), -1, 2);
        for (int f = 0; f < 6; f++) {
            CHECKS.due("value(0, " + f + ", 0, 0)", six.x.value(0, f, 0, 0), f + 1);
        }
        CountOffice bare = new CountOffice();
        CHECKS.dueWith(bare, "no BOOK", bare.row(-9, 0, 0, 0, 0, 0), -1, 1);
    }

    private static void rowRoom() {
        CHECKS.promise(8, "row: room");
        Desk desk = Desk.with("field a top 2 cost 1");
        CountOffice x = desk.x;
        for (int k = 0; k < 60; k++) {
            CHECKS.due("row " + k, desk.row(k % 3), k);
        }
        CHECKS.dueWith(x, "one too many", desk.row(0), -1, 3);
        CHECKS.dueWith(x, "a number comes ahead of room", desk.row(3), -1, 2);
        CHECKS.due("count(2)", x.count(2), 60);
        CHECKS.due("the last one", x.value(59, 0, 0, 0), 2);
        CHECKS.due("none such", x.value(60, 0, 0, 0), -2);
    }

    private static void weight() {
        CHECKS.promise(9, "weight");
        Desk desk = Desk.with("field a top 2 cost 1");
        CountOffice x = desk.x;
        desk.row(1);
        CHECKS.dueWith(x, "weight(0, 99)", x.weight(0, 99), true, 0);
        CHECKS.due("of(0, 5)", x.of(0, 5), 99);
        CHECKS.dueWith(x, "weight(0, 100)", x.weight(0, 100), false, 2);
        CHECKS.dueWith(x, "weight(0, 0)", x.weight(0, 0), false, 2);
        CHECKS.due("of(0, 5)", x.of(0, 5), 99);
        CHECKS.dueWith(x, "weight(0, 1)", x.weight(0, 1), true, 0);
        CHECKS.dueWith(x, "weight(1, 0)", x.weight(1, 0), false, 1);
        CHECKS.dueWith(x, "weight(-1, 1)", x.weight(-1, 1), false, 1);
        x.withdraw(0);
        CHECKS.due("of a WITHDRAWN one", x.weight(0, 7), true);
        CHECKS.due("of(0, 5)", x.of(0, 5), 7);
    }

    private static void withdraw() {
        CHECKS.promise(10, "withdraw");
        Desk desk = Desk.with("field a top 2 cost 1");
        CountOffice x = desk.x;
        desk.row(1);
        desk.row(1);
        desk.table("count");
        x.pass(5);
        CHECKS.dueWith(x, "withdraw(0)", x.withdraw(0), true, 0);
        CHECKS.dueWith(x, "withdraw(0) again", x.withdraw(0), false, 5);
        CHECKS.dueWith(x, "withdraw(2)", x.withdraw(2), false, 1);
        CHECKS.dueWith(x, "withdraw(-1)", x.withdraw(-1), false, 1);
        CHECKS.due("of(0, 0)", x.of(0, 0), 0);
        CHECKS.due("of(1, 0)", x.of(1, 0), 1);
        CHECKS.due("ahead of that DAY", x.figure(0, 0, 0, 4, 0), 2);
        CHECKS.due("on that DAY", x.figure(0, 0, 0, 5, 0), 1);
        CHECKS.due("its VALUES stay", x.value(0, 0, 5, 0), 1);
        CHECKS.due("WITHDRAWN on its own DAY", desk.row(0), 2);
        x.withdraw(2);
        CHECKS.due("never THERE", x.figure(0, 0, 0, 5, 0), 1);
    }

    private static void value() {
        CHECKS.promise(11, "value");
        Desk desk = Desk.with("field a top 2 cost 1; field b top 2 cost 1");
        CountOffice x = desk.x;
        x.pass(3);
        desk.row(2, -1);
        x.pass(2);
        CHECKS.due("value(0, 0, 5, 0)", x.value(0, 0, 5, 0), 2);
        CHECKS.due("on its own DAY", x.value(0, 0, 3, 4), 2);
        CHECKS.due("a GAP", x.value(0, 1, 5, 0), -1);
        CHECKS.due("ahead of its DAY", x.value(0, 0, 2, 0), -2);
        CHECKS.due("ahead of all DAYS", x.value(0, 0, -1, 0), -2);
        CHECKS.due("behind TODAY", x.value(0, 0, 6, 0), -2);
        CHECKS.due("no such ROW", x.value(1, 0, 5, 0), -2);
        CHECKS.due("no such ROW", x.value(-1, 0, 5, 0), -2);
        CHECKS.due("no such FIELD", x.value(0, 2, 5, 0), -2);
        CHECKS.due("no such FIELD", x.value(0, -1, 5, 0), -2);
        CHECKS.due("no such FILLING", x.value(0, 0, 5, 5), -2);
        CHECKS.due("no such FILLING", x.value(0, 0, 5, -1), -2);
        CHECKS.due("trouble()", x.trouble(), 0);
    }

    private static void valueOnDays() {
        CHECKS.promise(11, "value on DAYS");
        Desk desk = Desk.with("field a top 2 cost 1; field b top 2 cost 9; field c top 2 cost 1; never a = b");
        CountOffice x = desk.x;
        desk.row(1, 1, -1);
        desk.row(0, 1, 2);
        desk.row(0, 1, 1);
        x.pass(2);
        CHECKS.due("mend(0)", x.mend(0), 1);
        x.pass(2);
        CHECKS.due("fill(0, 1)", x.fill(0, 1), 2);
        x.pass(2);
        CHECKS.due("ahead of its MENDING", x.value(0, 0, 1, 0), 1);
        CHECKS.due("from its MENDING on", x.value(0, 0, 2, 0), 0);
        CHECKS.due("today", x.value(0, 0, 6, 3), 0);
        CHECKS.due("ahead of its FILLING", x.value(0, 2, 3, 0), -1);
        CHECKS.due("by FILLING 0", x.value(0, 2, 4, 0), 1);
        CHECKS.due("by FILLING 1", x.value(0, 2, 4, 1), 2);
        CHECKS.due("by FILLING 2", x.value(0, 2, 6, 2), 1);
        CHECKS.due("by FILLING 3", x.value(0, 2, 6, 3), 2);
        CHECKS.due("by FILLING 4", x.value(0, 2, 6, 4), 1);
    }

    private static void of() {
        CHECKS.promise(12, "of");
        Desk desk = Desk.with("field a top 2 cost 1; field b top 2 cost 2; field c top 2 cost 1;"
                + "never c = 1; never a = 1 and b = 1; never a = 1");
        CountOffice x = desk.x;
        desk.row(1, 1, -1);
        desk.row(0, 1, 2);
        desk.row(-1, -1, 0);
        desk.row(1, 0, 0);
        CHECKS.due("of(0, 0)", x.of(0, 0), 1);
        CHECKS.due("of(0, 1)", x.of(0, 1), 1);
        CHECKS.due("of(0, 2)", x.of(0, 2), 1);
        CHECKS.due("of(0, 3)", x.of(0, 3), -2);
        CHECKS.due("of(0, 4)", x.of(0, 4), -2);
        CHECKS.due("of(0, 5)", x.of(0, 5), 1);
        CHECKS.due("of(0, 6)", x.of(0, 6), 1);
        CHECKS.due("of(3, 6)", x.of(3, 6), 2);
        CHECKS.due("of(1, 1)", x.of(1, 1), 0);
        CHECKS.due("of(1, 6)", x.of(1, 6), -2);
        CHECKS.due("of(2, 1): GAPS break nothing", x.of(2, 1), 0);
        CHECKS.due("of(2, 2)", x.of(2, 2), 2);
        CHECKS.due("of(0, 7)", x.of(0, 7), -1);
        CHECKS.due("of(0, -1)", x.of(0, -1), -1);
        CHECKS.due("of(4, 0)", x.of(4, 0), -1);
        CHECKS.due("of(-1, 0)", x.of(-1, 0), -1);
        x.pass(9);
        x.mend(0);
        x.pass(9);
        x.fill(0, 0);
        x.withdraw(1);
        CHECKS.due("of(0, 1) MENDED", x.of(0, 1), 0);
        CHECKS.due("of(0, 6) MENDED", x.of(0, 6), -2);
        CHECKS.due("of(0, 3) MENDED", x.of(0, 3), 9);
        CHECKS.due("of(0, 2) FILLED", x.of(0, 2), 0);
        CHECKS.due("of(0, 4) FILLED", x.of(0, 4), 18);
        CHECKS.due("of(1, 0) WITHDRAWN", x.of(1, 0), 0);
        x.withdraw(3);
        CHECKS.due("of(3, 1) WITHDRAWN, as it is", x.of(3, 1), 1);
    }

    private static void mendTakesTheCheapest() {
        CHECKS.promise(13, "mend");
        Desk cost = Desk.with("field a top 1 cost 9; field b top 1 cost 4; field c top 1 cost 4;"
                + "never a = 1 and b = 1; never a = 1 and c = 1");
        cost.row(1, 1, 1);
        CHECKS.dueWith(cost.x, "two cheap ones for a dear one", cost.x.mend(0), 6, 0);
        CHECKS.due("a", cost.x.value(0, 0, 0, 0), 1);
        CHECKS.due("b", cost.x.value(0, 1, 0, 0), 0);
        CHECKS.due("c", cost.x.value(0, 2, 0, 0), 0);
        CHECKS.due("by every FILLING", cost.x.value(0, 2, 0, 4), 0);
        Desk fewest = Desk.with("field a top 1 cost 4; field b top 1 cost 4; field c top 1 cost 8;"
                + "never a = 1 and c = 1; never b = 1 and c = 1");
        fewest.row(1, 1, 1);
        CHECKS.due("of as cheap ones the fewest", fewest.x.mend(0), 4);
        Desk lesser = Desk.with("field a top 1 cost 1; field b top 1 cost 1; field c top 1 cost 1; field d top 1 cost 1;"
                + "never a = 1 and b = 1; never c = 1 and d = 1; never a = 1 and c = 1");
        lesser.row(1, 1, 1, 1);
        CHECKS.due("the lesser FIELD where they first differ", lesser.x.mend(0), 5);
        Desk outer = Desk.with("field a top 1 cost 1; field b top 1 cost 2; field c top 1 cost 2; field d top 1 cost 3;"
                + "never a = 1 and b = 1; never c = 1 and d = 1; never a = 1 and c = 1; never b = 1 and d = 1");
        outer.row(1, 1, 1, 1);
        CHECKS.due("0 and 3 or 1 and 2, as dear: 0 and 3", outer.x.mend(0), 9);
        Desk whole = Desk.with("field a top 1 cost 1; field b top 1 cost 1; never a = 1; never b = 1");
        whole.row(1, 1);
        CHECKS.due("all FIELDS", whole.x.mend(0), 3);
        CHECKS.due("count(6)", whole.x.count(6), 1);
        Desk names = Desk.with("field a top 9 cost 2; field b top 9 cost 1; never a > b; never b > a; never a > 7");
        names.row(9, 0);
        CHECKS.due("b can't, a can", names.x.mend(0), 1);
        names.row(8, 0);
        names.row(5, 6);
        names.x.withdraw(0);
        CHECKS.due("b can", names.x.mend(2), 2);
        CHECKS.due("b is", names.x.value(2, 1, 0, 0), 5);
    }

    private static void mendIsRefused() {
        CHECKS.promise(13, "mend is refused");
        Desk desk = Desk.with("field a top 1 cost 1; field b top 1 cost 1; never a = 1 and b = 1; never b = 1 and a = 0");
        CountOffice x = desk.x;
        desk.row(1, 1);
        desk.row(1, 0);
        desk.row(0, 1);
        CHECKS.dueWith(x, "mend(3)", x.mend(3), -1, 1);
        CHECKS.dueWith(x, "mend(-1)", x.mend(-1), -1, 1);
        CHECKS.dueWith(x, "not BROKEN", x.mend(1), -1, 5);
        x.withdraw(0);
        CHECKS.dueWith(x, "WITHDRAWN", x.mend(0), -1, 5);
        CHECKS.dueWith(x, "mend(2)", x.mend(2), 2, 0);
        CHECKS.dueWith(x, "MENDED already", x.mend(2), -1, 5);
        Desk none = Desk.with("field a top 2 cost 1; field b top 1 cost 1; never a < 1; never a = 1; never a > 1");
        none.row(0, 0);
        CHECKS.dueWith(none.x, "no way", none.x.mend(0), -1, 6);
        CHECKS.due("of(0, 3)", none.x.of(0, 3), -2);
        CHECKS.due("count(6)", none.x.count(6), 0);
        CHECKS.due("giver()", none.x.giver(), -1);
        CHECKS.due("its VALUE stays", none.x.value(0, 0, 0, 0), 0);
        CHECKS.dueWith(none.x, "no way again", none.x.mend(0), -1, 6);
    }

    private static void mendKeepsGaps() {
        CHECKS.promise(13, "mend keeps GAPS");
        Desk desk = Desk.with("field a top 1 cost 1; field b top 1 cost 5; never a = 0; never a = 1; never b = 1");
        desk.row(-1, 1);
        CHECKS.due("a GAP breaks nothing", desk.x.mend(0), 2);
        CHECKS.due("the GAP stays", desk.x.value(0, 0, 0, 0), -1);
        CHECKS.due("giver()", desk.x.giver(), -2);
        desk.row(-1, 0);
        desk.row(-1, 1);
        CHECKS.due("a giver with the same GAP", desk.x.mend(2), 2);
        CHECKS.due("giver()", desk.x.giver(), 0);
    }

    private static void giverIsTheNearest() {
        CHECKS.promise(14, "giver");
        Desk desk = Desk.with("field a top 3 cost 1; field b top 2 cost 9; field c top 2 cost 9; field d top 2 cost 9;"
                + "never a = 0");
        CountOffice x = desk.x;
        desk.row(0, 1, -1, 1);
        desk.row(1, 0, 0, 1);
        desk.row(2, 1, 2, 1);
        desk.row(3, 1, -1, 2);
        desk.row(1, 1, 1, 1);
        CHECKS.due("NONE ahead of any", x.giver(), -1);
        x.mend(1);
        CHECKS.due("NONE ahead of any that told FIELDS", x.giver(), -1);
        CHECKS.due("mend(0)", x.mend(0), 1);
        CHECKS.due("a GAP is like a GAP alone: 2, 3, 4 unlike in one, the least number", x.giver(), 2);
        CHECKS.due("its VALUE", x.value(0, 0, 0, 0), 2);
        desk.row(0, 1, -1, 2);
        CHECKS.due("mend(5)", x.mend(5), 1);
        CHECKS.due("the one that is like it", x.giver(), 3);
        x.mend(5);
        x.pass(1);
        CHECKS.due("stays behind one refused", x.giver(), 3);
        desk.book("field a top 1 cost 1; never a = 1");
        CHECKS.due("another BOOK leaves it", x.giver(), 3);
        desk.row(1);
        x.mend(0);
        CHECKS.due("-2 without one", x.giver(), -2);
    }

    private static void giverMustFit() {
        CHECKS.promise(14, "giver must fit");
        Desk desk = Desk.with("field a top 5 cost 1; field b top 5 cost 9; never a = b; never a = 0");
        CountOffice x = desk.x;
        desk.row(3, 3);
        desk.row(1, 1);
        desk.row(2, 3);
        x.withdraw(2);
        desk.row(-1, 3);
        desk.row(3, 2);
        desk.row(5, 4);
        desk.row(4, 1);
        CHECKS.due("mend(0)", x.mend(0), 1);
        CHECKS.due("not BROKEN, not WITHDRAWN, no GAP, its VALUE fits", x.giver(), 5);
        CHECKS.due("its VALUE", x.value(0, 0, 0, 0), 5);
        Desk filled = Desk.with("field a top 3 cost 1; field b top 3 cost 9; never a = 0");
        filled.row(-1, 2);
        filled.row(3, 3);
        filled.row(0, 2);
        filled.row(1, 3);
        CHECKS.due("fill(0, 1)", filled.x.fill(0, 1), 2);
        CHECKS.due("mend(2)", filled.x.mend(2), 1);
        CHECKS.due("a FILLED one gives by FILLING 0", filled.x.giver(), 0);
        CHECKS.due("its VALUE", filled.x.value(2, 0, 0, 3), 1);
    }

    private static void leastValues() {
        CHECKS.promise(13, "mend without a GIVER");
        Desk desk = Desk.with("field a top 2 cost 1; field b top 2 cost 1; field c top 2 cost 9;"
                + "never a = c; never b = c; never a = 0 and b = 0; never a < 1 and b > 1");
        CountOffice x = desk.x;
        desk.row(2, 2, 2);
        CHECKS.due("mend(0)", x.mend(0), 3);
        CHECKS.due("giver()", x.giver(), -2);
        CHECKS.due("the first FIELD counts most", x.value(0, 0, 0, 0), 0);
        CHECKS.due("then the second", x.value(0, 1, 0, 0), 1);
        CHECKS.due("the other stays", x.value(0, 2, 0, 0), 2);
        Desk back = Desk.with("field a top 3 cost 1; field b top 3 cost 1; field c top 3 cost 1; field d top 1 cost 9;"
                + "never c > b and d = 0; never b > a and d = 0; never a < 1; never b < 1; never c < 2; never a = 2 and b = 2");
        back.row(0, 0, 0, 0);
        CHECKS.due("three FIELDS", back.x.mend(0), 7);
        CHECKS.due("a: 1 and 2 lead nowhere", back.x.value(0, 0, 0, 0), 3);
        CHECKS.due("b: 1 leads nowhere", back.x.value(0, 1, 0, 0), 2);
        CHECKS.due("c", back.x.value(0, 2, 0, 0), 2);
    }

    private static void fill() {
        CHECKS.promise(15, "fill");
        Desk desk = Desk.with("field a top 4 cost 1; field b top 4 cost 1; field c top 4 cost 1; never a = 4 and b = 4");
        CountOffice x = desk.x;
        desk.row(4, -1, -1);
        desk.row(4, 0, 1);
        desk.row(4, 1, 2);
        desk.row(1, 3, 3);
        desk.row(1, 4, 0);
        desk.row(4, 2, 3);
        CHECKS.dueWith(x, "fill(0, 998)", x.fill(0, 998), 3, 0);
        int[] second = {2, 0, 1, 2, 0};
        for (int f = 0; f < 5; f++) {
            CHECKS.due("b by FILLING " + f, x.value(0, 1, 0, f), second[f]);
            CHECKS.due("c by FILLING " + f, x.value(0, 2, 0, f), second[f] + 1);
            CHECKS.due("a by FILLING " + f, x.value(0, 0, 0, f), 4);
        }
        CHECKS.due("count(7)", x.count(7), 1);
        desk.row(-1, 4, -1);
        CHECKS.due("of all FIELDS but GAPS: one that is like it", x.fill(6, 0), 1);
        CHECKS.due("a", x.value(6, 0, 0, 4), 1);
        desk.row(-1, -1, -1);
        CHECKS.due("all GAPS: all give", x.fill(7, 999), 7);
    }

    private static void fillIsRefused() {
        CHECKS.promise(15, "fill is refused");
        Desk desk = Desk.with("field a top 2 cost 1; field b top 2 cost 1; never a = 1");
        CountOffice x = desk.x;
        desk.row(0, -1);
        desk.row(0, 1);
        desk.row(1, -1);
        desk.row(0, -1);
        CHECKS.dueWith(x, "fill(4, -1)", x.fill(4, -1), -1, 1);
        CHECKS.dueWith(x, "fill(-1, 0)", x.fill(-1, 0), -1, 1);
        CHECKS.dueWith(x, "fill(1, 1000): a number comes ahead", x.fill(1, 1000), -1, 2);
        CHECKS.dueWith(x, "fill(0, -1)", x.fill(0, -1), -1, 2);
        CHECKS.dueWith(x, "no GAPS", x.fill(1, 0), -1, 5);
        CHECKS.dueWith(x, "BROKEN", x.fill(2, 0), -1, 5);
        x.withdraw(3);
        CHECKS.dueWith(x, "WITHDRAWN", x.fill(3, 0), -1, 5);
        x.withdraw(1);
        CHECKS.dueWith(x, "no GIVER", x.fill(0, 0), -1, 6);
        CHECKS.due("of(0, 4)", x.of(0, 4), -2);
        CHECKS.due("value(0, 1, 0, 0)", x.value(0, 1, 0, 0), -1);
        desk.row(0, 2);
        CHECKS.dueWith(x, "fill(0, 0)", x.fill(0, 0), 1, 0);
        CHECKS.dueWith(x, "FILLED already", x.fill(0, 0), -1, 5);
        Desk rule = Desk.with("field a top 2 cost 1; field b top 2 cost 1; never a > b");
        rule.row(2, -1);
        rule.row(0, 0);
        rule.row(1, 1);
        CHECKS.dueWith(rule.x, "no VALUES that fit", rule.x.fill(0, 0), -1, 6);
    }

    private static void fillGivers() {
        CHECKS.promise(15, "fill: who gives");
        Desk desk = Desk.with("field a top 3 cost 1; field b top 3 cost 1; field c top 3 cost 1; never a = b");
        CountOffice x = desk.x;
        desk.row(1, -1, 1);
        desk.row(1, 1, 1);
        desk.row(1, 2, -1);
        desk.row(3, 1, 1);
        desk.row(0, 3, 1);
        CHECKS.due("not BROKEN, without GAPS anywhere, fitting", x.fill(0, 0), 1);
        CHECKS.due("b", x.value(0, 1, 0, 0), 3);
        x.pass(3);
        CHECKS.due("a FILLED one gives too", x.fill(2, 7), 1);
        CHECKS.due("its DAY", x.of(2, 4), 3);
        CHECKS.due("c", x.value(2, 2, 3, 2), 1);
        CHECKS.due("ahead of that DAY", x.value(2, 2, 2, 2), -1);
    }

    private static void pass() {
        CHECKS.promise(16, "pass");
        CountOffice x = Desk.with("field a top 2 cost 1").x;
        CHECKS.dueWith(x, "pass(1)", x.pass(1), 1, 0);
        CHECKS.dueWith(x, "pass(0)", x.pass(0), -1, 2);
        CHECKS.dueWith(x, "pass(-1)", x.pass(-1), -1, 2);
        CHECKS.dueWith(x, "pass(101)", x.pass(101), -1, 2);
        CHECKS.dueWith(x, "pass(2147483647)", x.pass(2147483647), -1, 2);
        CHECKS.due("count(4)", x.count(4), 1);
        for (int k = 1; k <= 9; k++) {
            CHECKS.due("pass(100)", x.pass(100), 1 + 100 * k);
        }
        CHECKS.dueWith(x, "pass(99): beyond 999", x.pass(99), -1, 2);
        CHECKS.dueWith(x, "pass(98)", x.pass(98), 999, 0);
        CHECKS.dueWith(x, "pass(1): beyond 999", x.pass(1), -1, 2);
        CHECKS.due("count(4)", x.count(4), 999);
        CountOffice bare = new CountOffice();
        CHECKS.dueWith(bare, "no BOOK", bare.pass(0), -1, 1);
    }
}
