/** Promises 33 and 34: count and trouble. */
public final class CountTests {
    private static final Checks CHECKS = new Checks("CountTests");

    public static void main(String[] args) {
        count();
        countOfNothing();
        trouble();
        constants();
        CHECKS.close();
    }

    private static void count() {
        CHECKS.promise(33, "count");
        Desk desk = Desk.with("field a top 2 cost 1; field b top 2 cost 1; never a = 2; never b = 2");
        CountOffice x = desk.x;
        desk.row(2, 0);
        desk.row(0, 2);
        desk.row(2, 1);
        desk.row(0, 0);
        desk.row(0, -1);
        desk.row(2, -1);
        desk.table("count");
        x.pass(12);
        x.lot(1);
        x.lot(2);
        x.lot(3);
        x.set(3, 44);
        x.noise(0, 0, 0);
        desk.feed("some bytes");
        int[] due = {2, 2, 6, 1, 12, 4, 0, 0, 2, 43, 20};
        counts(x, due);
        x.mend(0);
        x.mend(1);
        x.fill(4, 0);
        x.mend(5);
        x.fill(5, 0);
        x.withdraw(2);
        x.withdraw(0);
        x.withdraw(4);
        int[] later = {2, 2, 6, 1, 12, 0, 3, 2, 2, 43, 20};
        counts(x, later);
        CHECKS.due("trouble() stays as it was", x.trouble(), 0);
    }

    private static void counts(CountOffice x, int[] due) {
        for (int what = 0; what < due.length; what++) {
            CHECKS.due("count(" + what + ")", x.count(what), due[what]);
        }
        CHECKS.due("count(11)", x.count(11), -1);
        CHECKS.due("count(-1)", x.count(-1), -1);
        CHECKS.due("count(2147483647)", x.count(2147483647), -1);
    }

    private static void countOfNothing() {
        CHECKS.promise(33, "count of nothing");
        counts(new CountOffice(), new int[11]);
        Desk desk = new Desk();
        desk.book("field a");
        counts(desk.x, new int[11]);
    }

    private static void trouble() {
        CHECKS.promise(34, "trouble");
        Desk desk = new Desk();
        CountOffice x = desk.x;
        CHECKS.due("of a new object", x.trouble(), 0);
        x.pass(1);
        CHECKS.due("1", x.trouble(), 1);
        CHECKS.due("1 again", x.trouble(), 1);
        for (int k = 0; k < 26; k++) {
            x.feed(0, 0, 0, 0, 0);
        }
        x.count(99);
        x.field(0, 0);
        x.fault();
        x.where();
        x.value(0, 0, 0, 0);
        x.of(0, 0);
        x.giver();
        CHECKS.dueNotLed(x, 0, 0, 0, 0);
        CHECKS.due("calls that tell no number leave it", x.trouble(), 1);
        x.book(-1);
        CHECKS.due("2", x.trouble(), 2);
        x.book(1);
        CHECKS.due("4", x.trouble(), 4);
        desk.book("field a top 1 cost 1; field b top 1 cost 1; never a = 0; never a = 1");
        CHECKS.due("0", x.trouble(), 0);
        desk.row(1, 1);
        x.mend(0);
        CHECKS.due("6", x.trouble(), 6);
        x.fill(0, 0);
        CHECKS.due("5", x.trouble(), 5);
        x.lot(1);
        CHECKS.due("0", x.trouble(), 0);
        desk.table("count by a, b");
        everyCall(x);
    }

    /** Each call that may be refused makes an earlier trouble forgotten. */
    private static void everyCall(CountOffice x) {
        call(x, "row", x.row(0, 0, 0, 0, 0, 0));
        call(x, "weight", x.weight(0, 1) ? 1 : 0);
        call(x, "withdraw", x.withdraw(0) ? 1 : 0);
        call(x, "pass", x.pass(1));
        call(x, "figure", x.figure(0, 0, 0, 0, 0));
        call(x, "span", x.span(0, 0, 0, true));
        call(x, "far", x.far(0, 0, 0, 0, 1));
        call(x, "known", x.known(0, 0, 1) ? 1 : 0);
        call(x, "agreed", x.agreed(0, 0, 0, true));
        call(x, "group", x.group(0, 0, 1) ? 1 : 0);
        call(x, "set", x.set(3, 9) ? 1 : 0);
        call(x, "shy", x.shy(0));
        call(x, "edge", x.edge(0, 0, 0, 1, true));
        call(x, "wide", x.wide(0, 1));
        call(x, "least", x.least(0));
        call(x, "differing", x.differing(0, 0));
        call(x, "lot", x.lot(1));
        call(x, "noise", x.noise(0, 0, 0));
        x.feed(0x636f756e, 0x74202020, 0x20202020, 0x20202020, 0x20202020);
        call(x, "table", x.table(5));
    }

    private static void call(CountOffice x, String name, long answer) {
        CHECKS.due(name + " answered, then trouble()", x.trouble(), 0);
        CHECKS.due(name + " answered", answer >= 0, true);
        x.weight(-1, 1);
        CHECKS.due("trouble() of another call", x.trouble(), 1);
    }

    private static void constants() {
        CHECKS.promise(1, "constants");
        CHECKS.due("NONE", CountOffice.NONE, -1);
    }
}
