import java.util.ArrayList;
import java.util.List;

/** Asks an office whatever can be asked of it, and then does to it whatever shows what it keeps for later. */
final class Probe {
    private static final int LAST_CALL = 512;
    private static final int ROWS_LOOKED_AT = 4;

    private final CountOffice x;
    private final List<String> told = new ArrayList<>();

    private Probe(CountOffice x) {
        this.x = x;
    }

    /** The calls in their order, each with its answer; the office is another one behind it. */
    static List<String> of(CountOffice x) {
        Probe probe = new Probe(x);
        probe.counts();
        probe.fields();
        probe.rows();
        probe.tables();
        probe.agreement();
        probe.noise();
        probe.tape();
        probe.changes();
        probe.counts();
        if (probe.told.size() >= LAST_CALL) {
            throw new IllegalStateException("a probe of " + probe.told.size() + " calls");
        }
        return probe.told;
    }

    private void tell(String call, long answer) {
        told.add(call + " answered " + answer);
    }

    private void tell(String call, boolean answer) {
        tell(call, answer ? 1 : 0);
    }

    private void counts() {
        for (int what = 0; what <= 10; what++) {
            tell("count(" + what + ")", x.count(what));
        }
        tell("giver()", x.giver());
    }

    private void fields() {
        for (int f = 0; f < x.count(0); f++) {
            tell("field(" + f + ", 0)", x.field(f, 0));
            tell("field(" + f + ", 1)", x.field(f, 1));
        }
    }

    private void rows() {
        int rows = x.count(2);
        for (int k = 0; k < Math.min(rows, ROWS_LOOKED_AT); k++) {
            int row = k < ROWS_LOOKED_AT - 1 ? k : rows - 1;
            for (int what = 0; what <= 6; what++) {
                tell("of(" + row + ", " + what + ")", x.of(row, what));
            }
            for (int f = 0; f < x.count(0); f++) {
                value(row, f, 0, 0);
                value(row, f, x.count(4), 0);
                value(row, f, x.count(4), 1);
            }
        }
    }

    private void value(int row, int f, int day, int filling) {
        tell("value(" + row + ", " + f + ", " + day + ", " + filling + ")", x.value(row, f, day, filling));
    }

    private void tables() {
        int today = x.count(4);
        for (int t = 0; t < x.count(3); t++) {
            String of = "(" + t + ", ..)";
            tell("figure" + of, x.figure(t, 0, 0, today, 0));
            tell("figure" + of + " of another CELL", x.figure(t, 1, 0, 0, 0));
            tell("figure" + of + " by FILLING 1", x.figure(t, 1, 1, today, 1));
            tell("span" + of, x.span(t, 0, 0, true));
            tell("shy" + of, x.shy(t));
            tell("wide" + of, x.wide(t, 511));
            tell("least" + of, x.least(t));
            tell("edge" + of, x.edge(t, 0, 0, 27, true));
            tell("differing" + of, x.differing(0, t));
            for (int what = 0; what <= 3; what++) {
                tell("small" + of + " " + what, x.small(t, 0, 0, what));
            }
        }
    }

    private void agreement() {
        for (int t = 0; t < Math.min(4, x.count(3)); t++) {
            tell("agreed(" + t + ", 0, 0, false)", x.agreed(t, 0, 0, false));
            tell("agreed(" + t + ", 0, 0, true)", x.agreed(t, 0, 0, true));
        }
    }

    private void noise() {
        tell("noise(0, 0, 0)", x.noise(0, 0, 0));
        tell("noise(0, 1, 0)", x.noise(0, 1, 0));
        tell("lot(4)", x.lot(4));
        tell("set(3, 5)", x.set(3, 5));
        tell("noise(0, 1, 1)", x.noise(0, 1, 1));
        tell("noise(0, 0, 0) again", x.noise(0, 0, 0));
        tell("count(8)", x.count(8));
        tell("count(9)", x.count(9));
    }

    private void tape() {
        tell("table(count(10))", x.table(x.count(10)));
        tell("trouble()", x.trouble());
        tell("where()", x.where());
    }

    private void changes() {
        for (int row = 0; row < ROWS_LOOKED_AT; row++) {
            tell("mend(" + row + ")", x.mend(row));
            tell("fill(" + row + ", 1)", x.fill(row, 1));
            tell("giver()", x.giver());
        }
        tell("row(0, 0, 0, 0, 0, 0)", x.row(0, 0, 0, 0, 0, 0));
        tell("weight(0, 7)", x.weight(0, 7));
        tell("withdraw(0)", x.withdraw(0));
        tell("withdraw(0) again", x.withdraw(0));
        tell("known(0, 0, 7)", x.known(0, 0, 7));
        tell("group(0, 0, 1)", x.group(0, 0, 1));
        tell("set(0, 4)", x.set(0, 4));
        tell("shy(0) with MIN 4", x.shy(0));
        tell("pass(1)", x.pass(1));
        rows();
        agreement();
    }
}
