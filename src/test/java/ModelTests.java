import java.util.ArrayList;
import java.util.List;
import java.util.NoSuchElementException;
import java.util.function.LongSupplier;

/** All promises: long runs of calls, drawn by a fixed row of numbers, on an office and on the Model. */
public final class ModelTests {
    private static final long THROWN = 1L << 62;
    private static final int CALLS = 512;

    private final CountOffice x = new CountOffice();
    private final Model y = new Model();
    private final List<String> log = new ArrayList<>();
    private final int kind;
    private long seed;
    private int calls;
    private boolean wrong;

    private ModelTests(int run) {
        seed = run * 0x9E3779B97F4A7C15L + 12345;
        kind = run % 5;
    }

    /** How many runs, the number of the first one (perhaps). */
    public static void main(String[] args) {
        int runs = args.length > 0 ? Integer.parseInt(args[0]) : 600;
        int first = args.length > 1 ? Integer.parseInt(args[1]) : 0;
        int bad = 0;
        long made = 0;
        for (int run = first; run < first + runs && bad < 3; run++) {
            ModelTests test = new ModelTests(run);
            test.play(run);
            made += test.calls;
            bad += test.wrong ? 1 : 0;
        }
        System.out.println("ModelTests: " + made + " calls, " + bad + " runs with an answer that is not the Model's");
        if (bad != 0) {
            System.exit(1);
        }
    }

    private int draw(int below) {
        seed = seed * 6364136223846793005L + 1442695040888963407L;
        return (int) ((seed >>> 33) % below);
    }

    private boolean once(int in) {
        return draw(in) == 0;
    }

    private int from(int low, int high) {
        return low + draw(high - low + 1);
    }

    /** Mostly within bounds, now and then just outside, seldom far away. */
    private int near(int low, int high) {
        if (once(60)) {
            int[] far = {Integer.MIN_VALUE, Integer.MAX_VALUE, -1000, 1000, 64, 1 << 30};
            return far[draw(far.length)];
        }
        return once(25) ? (once(2) ? low - 1 : high + 1) : from(low, Math.max(low, high));
    }

    private void both(String call, LongSupplier mine, LongSupplier due) {
        if (wrong || calls >= CALLS) {
            return;
        }
        calls++;
        long want = answer(due);
        long got = answer(mine);
        log.add(call + " = " + want);
        if (got != want) {
            wrong = true;
            for (String line : log) {
                System.out.println(line);
            }
            System.out.println("the last one answered " + got);
        }
    }

    private static long answer(LongSupplier call) {
        try {
            return call.getAsLong();
        } catch (NoSuchElementException none) {
            return THROWN;
        }
    }

    private static long bit(boolean answer) {
        return answer ? 1 : 0;
    }

    private void asks() {
        both("trouble()", x::trouble, y::trouble);
        if (once(4)) {
            both("where()", x::where, y::where);
            both("fault()", x::fault, y::fault);
        }
    }

    private void play(int run) {
        log.add("run " + run);
        if (once(3)) {
            anything();
        }
        for (int k = 0; k < 5 && y.count(0) == 0; k++) {
            tell(bookText(), true);
        }
        for (int k = 0; k < 8 && y.count(3) < 4; k++) {
            tell(tableText(), false);
        }
        int rows = kind == 0 ? from(0, 12) : kind == 1 ? 60 : from(15, 45);
        for (int k = 0; k < rows; k++) {
            row();
        }
        while (calls < CALLS && !wrong) {
            anything();
        }
    }

    private void tell(String text, boolean book) {
        if (y.count(10) + text.length() > 480) {
            int n = from(0, 20);
            both("book(" + n + ")", () -> x.book(n), () -> y.book(n));
        }
        for (int at = 0; at < text.length(); at += 20) {
            int[] five = new int[5];
            for (int k = 0; k < 20; k++) {
                five[k / 4] = five[k / 4] << 8 | (at + k < text.length() ? text.charAt(at + k) & 255 : ' ');
            }
            both("feed(" + text.substring(at, Math.min(at + 20, text.length())) + ")",
                    () -> x.feed(five[0], five[1], five[2], five[3], five[4]), () -> y.feed(five));
        }
        int n = once(12) ? near(0, (int) y.count(10)) : text.length();
        if (book) {
            both("book(" + n + ")", () -> x.book(n), () -> y.book(n));
        } else {
            both("table(" + n + ")", () -> x.table(n), () -> y.table(n));
        }
        asks();
        both("where()", x::where, y::where);
        both("fault()", x::fault, y::fault);
    }

    private int top(int fields) {
        if (kind == 2) {
            return from(1, 3);
        }
        return once(12) ? from(4, 9) : fields > 4 ? from(1, 4) : from(1, kind == 4 ? 9 : 5);
    }

    private static final String[] NAMES = {"a", "b", "top", "cost", "abcdefgh", "q"};

    private String name(int fields) {
        return once(60) ? new String[] {"by", "sum", "abcdefghi", "z", "7", "where"}[draw(6)] : NAMES[draw(fields)];
    }

    private String one(int fields) {
        String thing = once(3) ? name(fields) : "" + (once(60) ? from(95, 12000) : from(0, 5));
        return name(fields) + blank() + (once(80) ? "!" : "=<>".charAt(draw(3))) + blank() + thing;
    }

    private String blank() {
        return once(2) ? " " : "";
    }

    private String test(int fields) {
        StringBuilder test = new StringBuilder(one(fields));
        int more = once(80) ? 12 : from(0, kind == 3 ? 3 : 2);
        for (int k = 0; k < more; k++) {
            test.append(" and ").append(one(fields));
        }
        return test.toString();
    }

    private String bookText() {
        int fields = kind == 2 ? from(2, 3) : from(2, 6);
        StringBuilder text = new StringBuilder();
        for (int f = 0; f < fields; f++) {
            text.append(f == 0 ? "" : blank() + ";" + blank()).append("field ").append(once(150) ? name(fields) : NAMES[f]);
            text.append(" top").append(blank()).append(once(120) ? from(0, 11) : top(fields));
            text.append(blank()).append("cost").append(blank()).append(once(150) ? from(0, 11) : from(1, 4));
        }
        int rules = once(20) ? 13 : from(0, kind == 2 ? 1 : 5);
        for (int k = 0; k < rules && text.length() < 420; k++) {
            text.append(blank()).append(';').append(blank()).append("never ").append(test(fields));
        }
        return spoilt(text.append(blank()).toString());
    }

    private String spoilt(String text) {
        if (text.isEmpty() || !once(12)) {
            return text;
        }
        int at = draw(text.length());
        String sign = new String[] {"", ";", ",", " ", "x", "9", "\0", "\377", "A", " and ", "="}[draw(11)];
        return text.substring(0, at) + sign + text.substring(Math.min(text.length(), at + draw(3)));
    }

    private String tableText() {
        int fields = (int) Math.max(1, y.count(0));
        StringBuilder text = new StringBuilder(once(kind == 2 ? 8 : 3) ? "sum " + name(fields) : "count");
        if (!once(kind == 2 ? 9 : 4)) {
            text.append(" by ").append(name(fields));
            if (!once(kind == 2 ? 9 : 4)) {
                text.append(blank()).append(',').append(blank()).append(name(fields));
            }
        }
        if (once(3)) {
            text.append(" where ").append(test(fields));
        }
        return spoilt(text.toString());
    }

    private void row() {
        int[] v = new int[6];
        for (int f = 0; f < 6; f++) {
            int top = (int) y.field(f, 0);
            v[f] = once(7) ? -1 : once(150) ? near(-1, top) : top < 0 ? draw(100) : from(0, once(3) ? Math.min(top, 1) : top);
        }
        both("row(" + v[0] + ", " + v[1] + ", " + v[2] + ", " + v[3] + ", " + v[4] + ", " + v[5] + ")",
                () -> x.row(v[0], v[1], v[2], v[3], v[4], v[5]), () -> y.row(v));
        if (once(6)) {
            asks();
        }
    }

    private int someRow() {
        return near(0, (int) y.count(2) - 1);
    }

    private int someTable() {
        return near(0, (int) y.count(3) - 1);
    }

    private int someField() {
        return near(0, (int) y.count(0) - 1);
    }

    private int someValue() {
        return once(12) ? near(0, 9) : from(0, once(3) ? 4 : 2);
    }

    /** A VALUE of a TABLE's first by, or of its second. */
    private int someValueOf(int table, int which) {
        return near(0, y.shapeOf(table)[which] - 1);
    }

    private int someDay() {
        return near(0, (int) y.count(4));
    }

    private void anything() {
        int r = draw(100);
        if (r < 38) {
            changes(draw(100));
        } else if (r < 50) {
            rowAsks();
        } else if (r < 72) {
            figureAsks();
        } else if (r < 92) {
            guardAsks();
        } else if (r < 95) {
            tell(tableText(), false);
        } else {
            counts();
        }
        if (once(3)) {
            asks();
        }
    }

    private void changes(int r) {
        int row = someRow();
        if (r < 20) {
            both("mend(" + row + ")", () -> x.mend(row), () -> y.mend(row));
            both("giver()", x::giver, y::giver);
        } else if (r < 40) {
            int lot = near(0, 999);
            both("fill(" + row + ", " + lot + ")", () -> x.fill(row, lot), () -> y.fill(row, lot));
        } else if (r < 50) {
            int w = near(1, 99);
            both("weight(" + row + ", " + w + ")", () -> bit(x.weight(row, w)), () -> y.weight(row, w));
        } else if (r < 53) {
            both("withdraw(" + row + ")", () -> bit(x.withdraw(row)), () -> y.withdraw(row));
        } else if (r < 62) {
            int days = once(8) ? near(1, 100) : from(1, 3);
            both("pass(" + days + ")", () -> x.pass(days), () -> y.pass(days));
        } else if (r < 70) {
            row();
        } else if (r < 78) {
            int v = near(-9, 9);
            both("lot(" + v + ")", () -> x.lot(v), () -> y.lot(v));
        } else if (r < 86) {
            setting();
        } else if (r < 92) {
            int f = someField();
            int v = someValue();
            int sum = near(0, once(2) ? 1000000 : 200);
            both("known(" + f + ", " + v + ", " + sum + ")", () -> bit(x.known(f, v, sum)), () -> y.known(f, v, sum));
        } else if (r < 98) {
            int f = someField();
            int v = someValue();
            int g = near(0, once(2) ? 9 : 1);
            both("group(" + f + ", " + v + ", " + g + ")", () -> bit(x.group(f, v, g)), () -> y.group(f, v, g));
        } else if (once(3)) {
            tell(bookText(), true);
        }
    }

    private void setting() {
        int what = near(0, 3);
        int v = what == 0 ? near(1, once(4) ? 20 : 4) : what == 1 ? near(1, once(4) ? 50 : 4)
                : what == 2 ? near(1, 99) : near(0, once(2) ? 1000 : 3);
        both("set(" + what + ", " + v + ")", () -> bit(x.set(what, v)), () -> y.set(what, v));
    }

    private void rowAsks() {
        int row = someRow();
        if (once(2)) {
            int f = someField();
            int day = someDay();
            int filling = near(0, 4);
            both("value(" + row + ", " + f + ", " + day + ", " + filling + ")", () -> x.value(row, f, day, filling),
                    () -> y.value(row, f, day, filling));
        } else {
            int what = near(0, 6);
            both("of(" + row + ", " + what + ")", () -> x.of(row, what), () -> y.of(row, what));
        }
    }

    private void figureAsks() {
        int t = someTable();
        int i = someValueOf(t, 0);
        int j = someValueOf(t, 1);
        String cell = t + ", " + i + ", " + j;
        int r = draw(6);
        if (r < 2) {
            int day = someDay();
            int filling = near(0, 4);
            both("figure(" + cell + ", " + day + ", " + filling + ")", () -> x.figure(t, i, j, day, filling),
                    () -> y.figure(t, i, j, day, filling));
        } else if (r == 2) {
            boolean most = once(2);
            both("span(" + cell + ", " + most + ")", () -> x.span(t, i, j, most), () -> y.span(t, i, j, most));
        } else if (r == 3) {
            int day = someDay();
            int other = someDay();
            both("far(" + cell + ", " + day + ", " + other + ")", () -> x.far(t, i, j, day, other),
                    () -> y.far(t, i, j, day, other));
        } else if (r == 4) {
            both("agreed(" + cell + ", false)", () -> x.agreed(t, i, j, false), () -> y.agreed(t, i, j, false));
            both("agreed(" + cell + ", true)", () -> x.agreed(t, i, j, true), () -> y.agreed(t, i, j, true));
        } else {
            int f = someField();
            int v = someValue();
            int what = near(0, 3);
            both("small(" + t + ", " + f + ", " + v + ", " + what + ")", () -> x.small(t, f, v, what),
                    () -> y.small(t, f, v, what));
        }
    }

    /** A set of CELLS of a TABLE, mostly one with a CELL in it and none that there isn't. */
    private long someSet(int table, int i, int j) {
        int[] shape = y.shapeOf(table);
        int cells = shape[0] * shape[1];
        long bits = (long) draw(1 << 30) << 34 ^ (long) draw(1 << 30) << 17 ^ draw(1 << 30);
        long more = (long) draw(1 << 30) << 34 ^ (long) draw(1 << 30) << 17 ^ draw(1 << 30);
        long out = once(2) ? bits | more : once(3) ? -1L : bits;
        if (!once(20)) {
            out &= cells < 64 ? (1L << cells) - 1 : -1L;
        }
        return once(10) ? out : out | 1L << i * shape[1] + j;
    }

    private void guardAsks() {
        int t = someTable();
        int i = someValueOf(t, 0);
        int j = someValueOf(t, 1);
        long out = someSet(t, i, j);
        int r = draw(20);
        if (r < 2) {
            both("shy(" + t + ")", () -> x.shy(t), () -> y.shy(t));
        } else if (r < 9) {
            boolean high = once(2);
            both("edge(" + t + ", " + i + ", " + j + ", " + out + ", " + high + ")", () -> x.edge(t, i, j, out, high),
                    () -> y.edge(t, i, j, out, high));
        } else if (r < 12) {
            both("wide(" + t + ", " + out + ")", () -> x.wide(t, out), () -> y.wide(t, out));
        } else if (r < 13) {
            both("least(" + t + ")", () -> x.least(t), () -> y.least(t));
        } else if (r < 15) {
            int u = someTable();
            both("differing(" + t + ", " + u + ")", () -> x.differing(t, u), () -> y.differing(t, u));
        } else if (r < 18) {
            both("noise(" + t + ", " + i + ", " + j + ")", () -> x.noise(t, i, j), () -> y.noise(t, i, j));
        } else {
            int k = near(0, 3);
            both("led(" + t + ", " + i + ", " + j + ", " + k + ")", () -> x.led(t, i, j, k), () -> y.led(t, i, j, k));
        }
    }

    private void counts() {
        int what = near(0, 10);
        both("count(" + what + ")", () -> x.count(what), () -> y.count(what));
        int f = someField();
        int of = near(0, 1);
        both("field(" + f + ", " + of + ")", () -> x.field(f, of), () -> y.field(f, of));
    }
}
