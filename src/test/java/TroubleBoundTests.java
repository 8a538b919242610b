import java.util.ArrayList;
import java.util.List;
import java.util.NoSuchElementException;

/** Term V, promises 1, 33 and 34, and what the document says of an object: TROUBLES, counts, 512 calls. */
public final class TroubleBoundTests {
    private static final int LOWEST = Integer.MIN_VALUE;
    private static final int HIGHEST = Integer.MAX_VALUE;
    private static final Checks CHECKS = new Checks("TroubleBoundTests");
    private static final Twins BUSY = new Twins(CHECKS, Lands::busy);
    private static final Twins NEW = new Twins(CHECKS, Desk::new);

    public static void main(String[] args) {
        newObject();
        newObjectRefuses();
        callsThatTellANumber();
        callsThatTellNone();
        latestCall();
        wasNotRefused();
        everyTrouble();
        leastIsNotRefused();
        counts();
        countsOfNothing();
        countIsNone();
        countOfBroken();
        countOfMended();
        countOfLots();
        countOfTape();
        lastCall();
        twoObjects();
        none();
        CHECKS.close();
    }

    private static void newObject() {
        CHECKS.sentence("Promise 1", "No BOOK");
        CountOffice x = new CountOffice();
        for (int what = 0; what <= 10; what++) {
            CHECKS.due("count(" + what + ")", x.count(what), 0);
        }
        CHECKS.due("fault()", x.fault(), 0);
        CHECKS.due("where()", x.where(), -1);
        CHECKS.due("trouble()", x.trouble(), 0);
        CHECKS.due("giver()", x.giver(), -1);
        CHECKS.due("field(0, 0)", x.field(0, 0), -1);
        CHECKS.due("value(0, 0, 0, 0)", x.value(0, 0, 0, 0), -2);
        CHECKS.due("of(0, 0)", x.of(0, 0), -1);
        CHECKS.dueNotLed(x, 0, 0, 0, 0);
    }

    private static void newObjectRefuses() {
        CHECKS.sentence("Promise 1 and Term V", "No BOOK: 1 there is none such");
        NEW.none("table(0)", x -> x.table(0), 1);
        NEW.none("row(0, ..)", x -> x.row(0, 0, 0, 0, 0, 0), 1);
        NEW.no("weight(0, 1)", x -> x.weight(0, 1), 1);
        NEW.no("withdraw(0)", x -> x.withdraw(0), 1);
        NEW.none("mend(0)", x -> x.mend(0), 1);
        NEW.none("fill(0, 0)", x -> x.fill(0, 0), 1);
        NEW.none("pass(1)", x -> x.pass(1), 1);
        NEW.noFigure("figure(0, 0, 0, 0, 0)", x -> x.figure(0, 0, 0, 0, 0), 1);
        NEW.noFigure("span(0, 0, 0, true)", x -> x.span(0, 0, 0, true), 1);
        NEW.noFigure("far(0, 0, 0, 0, 0)", x -> x.far(0, 0, 0, 0, 0), 1);
        NEW.no("known(0, 0, 0)", x -> x.known(0, 0, 0), 1);
        NEW.noFigure("agreed(0, 0, 0, true)", x -> x.agreed(0, 0, 0, true), 1);
        NEW.no("group(0, 0, 0)", x -> x.group(0, 0, 0), 1);
        NEW.none("small(0, 0, 0, 0)", x -> x.small(0, 0, 0, 0), 1);
        NEW.no("set(0, 3)", x -> x.set(0, 3), 1);
        NEW.none("shy(0)", x -> x.shy(0), 1);
        NEW.none("edge(0, 0, 0, 1, true)", x -> x.edge(0, 0, 0, 1, true), 1);
        NEW.none("wide(0, 0)", x -> x.wide(0, 0), 1);
        NEW.refused("least(0)", x -> x.least(0), -3, 1);
        NEW.none("differing(0, 0)", x -> x.differing(0, 0), 1);
        NEW.none("lot(0)", x -> x.lot(0), 1);
        NEW.noFigure("noise(0, 0, 0)", x -> x.noise(0, 0, 0), 1);
        NEW.none("book(1)", x -> x.book(1), 2);
    }

    private interface Call {
        void on(CountOffice x);
    }

    /** Each call that may be refused, once so that it is and once so that it isn't. */
    private static List<Call> refused() {
        List<Call> calls = new ArrayList<>();
        calls.add(x -> x.book(-1));
        calls.add(x -> x.table(-1));
        calls.add(x -> x.row(3, 0, 0, 0, 0, 0));
        calls.add(x -> x.weight(0, 0));
        calls.add(x -> x.withdraw(-1));
        calls.add(x -> x.mend(-1));
        calls.add(x -> x.fill(-1, 0));
        calls.add(x -> x.pass(0));
        calls.add(x -> x.figure(-1, 0, 0, 0, 0));
        calls.add(x -> x.span(-1, 0, 0, true));
        calls.add(x -> x.far(-1, 0, 0, 0, 0));
        calls.add(x -> x.known(-1, 0, 0));
        calls.add(x -> x.agreed(-1, 0, 0, true));
        calls.add(x -> x.group(-1, 0, 0));
        calls.add(x -> x.small(-1, 0, 0, 0));
        calls.add(x -> x.set(-1, 0));
        calls.add(x -> x.shy(-1));
        calls.add(x -> x.edge(-1, 0, 0, 1, true));
        calls.add(x -> x.wide(-1, 0));
        calls.add(x -> x.least(-1));
        calls.add(x -> x.differing(-1, 0));
        calls.add(x -> x.lot(99));
        calls.add(x -> x.noise(-1, 0, 0));
        return calls;
    }

    private static List<Call> taken() {
        List<Call> calls = new ArrayList<>();
        calls.add(x -> x.table(13));
        calls.add(x -> x.row(0, 0, 0, 0, 0, 0));
        calls.add(x -> x.weight(0, 1));
        calls.add(x -> x.withdraw(0));
        calls.add(x -> x.mend(6));
        calls.add(x -> x.fill(5, 0));
        calls.add(x -> x.pass(1));
        calls.add(x -> x.figure(0, 0, 0, 0, 0));
        calls.add(x -> x.span(0, 0, 0, true));
        calls.add(x -> x.far(0, 0, 0, 0, 0));
        calls.add(x -> x.known(0, 0, 0));
        calls.add(x -> x.agreed(0, 0, 0, true));
        calls.add(x -> x.group(0, 0, 0));
        calls.add(x -> x.small(2, 0, 0, 0));
        calls.add(x -> x.set(0, 3));
        calls.add(x -> x.shy(0));
        calls.add(x -> x.edge(0, 0, 0, 1, true));
        calls.add(x -> x.wide(0, 0));
        calls.add(x -> x.least(0));
        calls.add(x -> x.differing(0, 0));
        calls.add(x -> x.lot(0));
        calls.add(x -> x.noise(0, 0, 0));
        return calls;
    }

    private static List<Call> quiet() {
        List<Call> calls = new ArrayList<>();
        calls.add(x -> x.feed(0, 0, 0, 0, 0));
        calls.add(CountOffice::fault);
        calls.add(CountOffice::where);
        calls.add(x -> x.field(0, 0));
        calls.add(x -> x.field(-1, 0));
        calls.add(x -> x.value(0, 0, 0, 0));
        calls.add(x -> x.value(-1, 0, 0, 0));
        calls.add(x -> x.of(0, 0));
        calls.add(x -> x.of(-1, 0));
        calls.add(CountOffice::giver);
        calls.add(x -> x.led(0, 0, 0, 0));
        calls.add(x -> x.count(0));
        calls.add(x -> x.count(-1));
        calls.add(CountOffice::trouble);
        return calls;
    }

    private static int[] refusals() {
        return new int[] {2, 2, 2, 2, 1, 1, 1, 2, 1, 1, 1, 1, 1, 1, 1, 1, 1, 1, 1, 1, 1, 2, 1};
    }

    private static void callsThatTellANumber() {
        CHECKS.sentence("Term V", "TROUBLE of the latest call that may be refused (those of which a number is told here)");
        List<Call> refused = refused();
        List<Call> taken = taken();
        int[] due = refusals();
        for (int k = 0; k < refused.size(); k++) {
            for (int j = 0; j < taken.size(); j++) {
                CountOffice x = Lands.withTape().x;
                refused.get(k).on(x);
                CHECKS.due("trouble() behind the refused call " + k, x.trouble(), due[k]);
                taken.get(j).on(x);
                CHECKS.due("trouble() behind the call " + j + " that isn't", x.trouble(), 0);
                refused.get(k).on(x);
                CHECKS.due("trouble() behind the refused call " + k + " again", x.trouble(), due[k]);
            }
        }
    }

    private static void callsThatTellNone() {
        CHECKS.sentence("Term V", "TROUBLE of the latest call that may be refused: others leave it");
        List<Call> refused = refused();
        List<Call> quiet = quiet();
        int[] due = refusals();
        for (int k = 0; k < refused.size(); k++) {
            CountOffice x = Lands.withTape().x;
            refused.get(k).on(x);
            for (int j = 0; j < quiet.size(); j++) {
                quiet.get(j).on(x);
                CHECKS.due("trouble() behind the call " + j, x.trouble(), due[k]);
            }
        }
        CountOffice x = Lands.busy().x;
        for (int k = 0; k < 30; k++) {
            x.feed(k, k, k, k, k);
        }
        CHECKS.due("THE TAPE has no room: no number is told of it", x.trouble(), 0);
        CHECKS.dueNotLed(x, -1, 0, 0, 0);
        CHECKS.due("no number is told of led()", x.trouble(), 0);
    }

    private static void latestCall() {
        CHECKS.sentence("Promise 34", "TROUBLE: of the latest call");
        CountOffice x = Lands.busy().x;
        x.fill(60, 1);
        CHECKS.due("by 1", x.trouble(), 1);
        x.fill(0, 1000);
        CHECKS.due("by 2", x.trouble(), 2);
        x.fill(0, 1);
        CHECKS.due("by 5", x.trouble(), 5);
        x.fill(5, 1);
        CHECKS.due("not refused", x.trouble(), 0);
        CHECKS.due("trouble() again", x.trouble(), 0);
        x.fill(5, 1);
        CHECKS.due("by 5", x.trouble(), 5);
        CHECKS.due("trouble() again", x.trouble(), 5);
        x.fill(5, -1);
        CHECKS.due("by 2", x.trouble(), 2);
        x.fill(-1, -1);
        CHECKS.due("by 1", x.trouble(), 1);
    }

    private static void wasNotRefused() {
        CHECKS.sentence("Term V", "0 it wasn't; what it tells may be 0 or less");
        CountOffice x = Lands.busy().x;
        x.pass(0);
        CHECKS.dueWith(x, "a FIGURE of 0", x.figure(0, 2, 2, 5, 0), 0, 0);
        x.pass(0);
        CHECKS.dueWith(x, "a FAR below 0", x.far(0, 0, 1, 0, 5), -1, 0);
        x.pass(0);
        CHECKS.dueWith(x, "not WIDE", x.wide(0, 0), 0, 0);
        x.pass(0);
        CHECKS.dueWith(x, "nothing DIFFERING", x.differing(0, 0), 0, 0);
        x.pass(0);
        CHECKS.dueWith(x, "SPAN of 0", x.span(0, 2, 2, false), 0, 0);
    }

    private static void everyTrouble() {
        CHECKS.sentence("Term V", "1 there is none such; 2 a number; 3 no room; 4 a FAULT; 5 not so; 6 there is no way");
        Desk desk = Desk.with("field a top 1 cost 1; never a < 2");
        CountOffice x = desk.x;
        CHECKS.due("0", x.trouble(), 0);
        x.mend(0);
        CHECKS.due("1", x.trouble(), 1);
        desk.row(2);
        CHECKS.due("2", x.trouble(), 2);
        for (int k = 0; k <= 60; k++) {
            desk.row(0);
        }
        CHECKS.due("3", x.trouble(), 3);
        desk.table("sum");
        CHECKS.due("4", x.trouble(), 4);
        x.fill(0, 0);
        CHECKS.due("5", x.trouble(), 5);
        x.mend(0);
        CHECKS.due("6", x.trouble(), 6);
        desk.table("sum a");
        CHECKS.due("0", x.trouble(), 0);
    }

    private static void leastIsNotRefused() {
        CHECKS.sentence("Promises 11, 14 and 28", "-2 if there is none: that is no TROUBLE");
        CountOffice x = Lands.squares(new int[][] {{1, 0}, {0, 9}}).x;
        x.pass(0);
        CHECKS.dueWith(x, "least(0)", x.least(0), -2, 0);
        x.pass(0);
        CHECKS.dueWith(x, "value(0, 0, 1, 0)", x.value(0, 0, 1, 0), -2, 2);
        CHECKS.dueWith(x, "giver()", x.giver(), -1, 2);
    }

    private static void counts() {
        CHECKS.sentence("Promise 33", "0 FIELDS, 1 RULES, 2 ROWS, 3 TABLES, 4 TODAY, 5 BROKEN and THERE, 6 MENDED, 7 FILLED, 8 LOTS, 9 BUDGET, 10 bytes");
        int[] due = {3, 2, 7, 4, 5, 1, 1, 1, 1, 4, 20};
        Twins taped = new Twins(CHECKS, Lands::withTape);
        for (int what = 0; what < due.length; what++) {
            int of = what;
            taped.quiet("count(" + what + ")", x -> x.count(of), due[what]);
        }
    }

    private static void countsOfNothing() {
        CHECKS.sentence("Promise 33", "0 for what there isn't");
        for (int what = 0; what <= 10; what++) {
            int of = what;
            NEW.quiet("count(" + what + ")", x -> x.count(of), 0);
            new Twins(CHECKS, () -> Desk.with("field a top 1 cost 1")).quiet("count(" + what + ") of a BOOK alone",
                    x -> x.count(of), what == 0 ? 1 : 0);
        }
    }

    private static void countIsNone() {
        CHECKS.sentence("Promise 33", "NONE for others");
        for (int what : new int[] {-1, 11, 12, 100, LOWEST, HIGHEST}) {
            BUSY.quiet("count(" + what + ")", x -> x.count(what), -1);
            NEW.quiet("count(" + what + ") of a new object", x -> x.count(what), -1);
        }
    }

    private static void countOfBroken() {
        CHECKS.sentence("Promise 33", "5 ROWS BROKEN and THERE now");
        Desk desk = Desk.with("field a top 1 cost 1; never a = 1");
        CountOffice x = desk.x;
        for (int k = 1; k <= 60; k++) {
            desk.row(1);
            CHECKS.due("count(5)", x.count(5), k);
        }
        x.mend(0);
        CHECKS.due("less a MENDED one", x.count(5), 59);
        x.withdraw(1);
        CHECKS.due("less a WITHDRAWN one", x.count(5), 58);
        x.withdraw(0);
        CHECKS.due("a MENDED one WITHDRAWN", x.count(5), 58);
    }

    private static void countOfMended() {
        CHECKS.sentence("Promise 33", "6 MENDED, 7 FILLED");
        Desk desk = Desk.with("field a top 1 cost 1; field b top 1 cost 1; never a = 1");
        CountOffice x = desk.x;
        desk.row(0, 0);
        desk.row(1, -1);
        desk.row(0, -1);
        CHECKS.due("none MENDED", x.count(6), 0);
        CHECKS.due("none FILLED", x.count(7), 0);
        x.mend(0);
        x.fill(1, 0);
        CHECKS.due("behind ones refused", x.count(6) + x.count(7), 0);
        x.mend(1);
        CHECKS.due("one MENDED", x.count(6), 1);
        x.fill(1, 0);
        CHECKS.due("and FILLED", x.count(7), 1);
        x.fill(2, 0);
        CHECKS.due("two FILLED", x.count(7), 2);
        x.withdraw(1);
        CHECKS.due("it was MENDED, though WITHDRAWN", x.count(6), 1);
        CHECKS.due("it was FILLED, though WITHDRAWN", x.count(7), 2);
    }

    private static void countOfLots() {
        CHECKS.sentence("Promise 33", "8 LOTS in the line, 9 BUDGET left");
        Desk desk = Desk.with("field a top 1 cost 1");
        CountOffice x = desk.x;
        desk.table("count by a");
        for (int k = 1; k <= 100; k++) {
            x.lot(0);
        }
        x.lot(0);
        CHECKS.due("LOTS", x.count(8), 100);
        x.set(3, 1000);
        CHECKS.due("BUDGET", x.count(9), 1000);
        x.noise(0, 0, 0);
        CHECKS.due("LOTS less one", x.count(8), 99);
        CHECKS.due("BUDGET less one", x.count(9), 999);
        x.set(3, 0);
        CHECKS.due("BUDGET told anew", x.count(9), 0);
        x.noise(0, 1, 0);
        CHECKS.due("LOTS behind one refused", x.count(8), 99);
    }

    private static void countOfTape() {
        CHECKS.sentence("Promise 33", "10 bytes of THE TAPE");
        CountOffice x = new CountOffice();
        for (int k = 0; k <= 25; k++) {
            CHECKS.due("count(10)", x.count(10), 20 * k);
            x.feed(0, 0, 0, 0, 0);
        }
        CHECKS.due("count(10)", x.count(10), 500);
        x.book(0);
        CHECKS.due("count(10)", x.count(10), 0);
    }

    private static void lastCall() {
        CHECKS.sentence("What it is", "An object is used for at most 512 calls after it has been made");
        CountOffice x = new CountOffice();
        // field a top 9 cost 1; sum a
        x.feed(0x6669656c, 0x64206120, 0x746f7020, 0x3920636f, 0x73742031);
        x.book(20);
        x.feed(0x73756d20, 0x61202020, 0x20202020, 0x20202020, 0x20202020);
        x.table(5);
        int calls = 4;
        for (int k = 0; k < 60; k++) {
            x.row(9, 0, 0, 0, 0, 0);
            x.weight(k, 99);
            calls += 2;
        }
        long due = 60 * 99 * 9;
        for (; calls < 511; calls++) {
            CHECKS.due("call " + calls, x.span(0, 0, 0, true), due);
        }
        CHECKS.due("call 512", x.figure(0, 0, 0, 0, 0), due);
    }

    private static void twoObjects() {
        CHECKS.sentence("Promise 1", "A new object: others beside it are of no matter");
        Desk alone = Lands.busy();
        Desk one = Lands.busy();
        Desk other = Desk.with("field z top 9 cost 9; never z = 0");
        other.row(5);
        other.table("sum z");
        other.x.lot(9);
        other.x.set(0, 20);
        one.x.count(0);
        other.x.known(0, 0, 5);
        other.x.pass(77);
        Twins.alike(CHECKS, "another object's calls", one.x, alone.x);
        CHECKS.due("the other one's FIGURE", other.x.figure(0, 0, 0, 77, 0), 5);
        CHECKS.due("the other one's LOTS", other.x.count(8), 1);
    }

    private static void none() {
        CHECKS.sentence("The constants", "NONE = -1: There is none; refused. A GAP");
        CHECKS.due("NONE", CountOffice.NONE, -1);
        Desk desk = Lands.busy();
        CHECKS.due("a GAP", desk.row(CountOffice.NONE, 0, 0), 7);
        CHECKS.due("it is one", desk.x.value(7, 0, 5, 0), CountOffice.NONE);
        CHECKS.due("of(7, 2)", desk.x.of(7, 2), 1);
        boolean thrown = false;
        try {
            desk.x.led(0, 0, 0, CountOffice.NONE);
        } catch (NoSuchElementException none) {
            thrown = true;
        }
        CHECKS.due("led() of NONE throws", thrown, true);
    }
}
