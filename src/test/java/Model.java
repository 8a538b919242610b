import java.math.BigInteger;
import java.util.ArrayDeque;
import java.util.ArrayList;
import java.util.Arrays;
import java.util.Comparator;
import java.util.HashMap;
import java.util.List;
import java.util.Map;
import java.util.NoSuchElementException;
import java.util.Set;
import java.util.TreeMap;
import java.util.function.IntPredicate;

/** The document told once more, in the plainest and slowest way, to compare the class with. */
final class Model {
    private static final long NO = Long.MIN_VALUE;

    private record Token(String text, int place) { }

    private record One(int left, char sign, boolean named, int right) {
        boolean holds(int[] v) {
            int other = named ? v[right] : right;
            if (v[left] < 0 || other < 0) {
                return false;
            }
            return switch (sign) {
                case '=' -> v[left] == other;
                case '<' -> v[left] < other;
                default -> v[left] > other;
            };
        }
    }

    private record Field(String name, int top, int cost) { }

    private record Plan(int sum, List<Integer> by, List<One> where) { }

    private static final class Fault extends RuntimeException {
        private static final long serialVersionUID = 1;
        final int number;
        final int place;

        Fault(int number, int place) {
            this.number = number;
            this.place = place;
        }
    }

    private static final class Row {
        int weight = 1;
        int gone = -2;
        int mended = -2;
        int filled = -2;
        // From each DAY on, by each FILLING.
        final TreeMap<Integer, int[][]> states = new TreeMap<>();
    }

    private List<Integer> tape = new ArrayList<>();
    private List<Field> fields = new ArrayList<>();
    private List<List<One>> rules = new ArrayList<>();
    private List<Plan> plans = new ArrayList<>();
    private List<Row> rows = new ArrayList<>();
    private ArrayDeque<Integer> lots = new ArrayDeque<>();
    private Map<List<Integer>, long[]> told = new HashMap<>();
    private Map<List<Integer>, Integer> groups = new HashMap<>();
    private Map<Integer, Integer> sums = new HashMap<>();
    private boolean hasBook;
    private int today;
    private int agreedField = -1;
    private int min = 3;
    private int width = 3;
    private int m = 10;
    private int budget;
    private int trouble;
    private int fault;
    private int place;
    private int giver = -1;

    // ---- texts

    private static final Set<String> KEYS = Set.of("field", "never", "and", "count", "sum", "by", "where");
    private List<Token> tokens;
    private int at;
    private List<Field> reading;

    private static List<Token> cut(List<Integer> bytes) {
        StringBuilder text = new StringBuilder();
        for (int b : bytes) {
            text.append((char) b);
        }
        List<Token> cut = new ArrayList<>();
        java.util.regex.Matcher finds = java.util.regex.Pattern.compile("[a-z]+|[0-9]+|[^a-z0-9 ]",
                java.util.regex.Pattern.DOTALL).matcher(text);
        while (finds.find()) {
            String word = finds.group();
            boolean good = word.matches("[a-z]{1,8}|[0-9]{1,4}|[;,=<>]");
            cut.add(new Token(good ? word : "?", finds.start()));
        }
        cut.add(new Token("", text.length()));
        return cut;
    }

    private Token now() {
        return tokens.get(at);
    }

    private boolean sees(String text) {
        return now().text.equals(text);
    }

    private boolean takes(String text) {
        if (sees(text)) {
            at++;
            return true;
        }
        return false;
    }

    private void need(String text) {
        if (!takes(text)) {
            throw new Fault(1, now().place);
        }
    }

    private void check(boolean fine, int number) {
        if (!fine) {
            throw new Fault(number, now().place);
        }
    }

    private String name() {
        check(now().text.matches("[a-z]+") && !KEYS.contains(now().text), 1);
        return now().text;
    }

    private int index(String name) {
        for (int f = 0; f < reading.size(); f++) {
            if (reading.get(f).name.equals(name)) {
                return f;
            }
        }
        return -1;
    }

    private int fieldTold() {
        int f = index(name());
        check(f >= 0, 2);
        return f;
    }

    private int whole() {
        check(now().text.matches("[0-9]+"), 1);
        return Integer.parseInt(now().text);
    }

    private List<One> test() {
        List<One> ones = new ArrayList<>();
        do {
            int left = fieldTold();
            check(ones.size() < 12, 5);
            at++;
            check(sees("=") || sees("<") || sees(">"), 1);
            char sign = now().text.charAt(0);
            at++;
            boolean named = now().text.matches("[a-z]+");
            int right;
            if (named) {
                right = fieldTold();
            } else {
                right = whole();
                check(right <= 99, 4);
            }
            at++;
            ones.add(new One(left, sign, named, right));
        } while (takes("and"));
        return ones;
    }

    private void parseBook(List<Field> fieldsRead, List<List<One>> rulesRead) {
        reading = fieldsRead;
        long space = 1;
        do {
            if (sees("never")) {
                check(rulesRead.size() < 12, 5);
                at++;
                rulesRead.add(test());
                continue;
            }
            need("field");
            String name = name();
            check(index(name) < 0, 3);
            check(fieldsRead.size() < 6, 5);
            at++;
            need("top");
            int top = whole();
            check(top >= 1 && top <= 9, 4);
            space *= top + 1;
            check(space <= 20000, 5);
            at++;
            need("cost");
            int cost = whole();
            check(cost >= 1 && cost <= 9, 4);
            at++;
            fieldsRead.add(new Field(name, top, cost));
        } while (takes(";"));
        check(sees(""), 1);
    }

    private Plan parseTable() {
        reading = fields;
        int sum = -1;
        List<Integer> by = new ArrayList<>();
        List<One> where = List.of();
        if (!takes("count")) {
            need("sum");
            sum = fieldTold();
            at++;
        }
        if (takes("by")) {
            by.add(fieldTold());
            at++;
            if (takes(",")) {
                int second = fieldTold();
                check(second != by.get(0), 3);
                by.add(second);
                at++;
            }
        }
        if (takes("where")) {
            where = test();
        }
        check(sees(""), 1);
        return new Plan(sum, by, where);
    }

    private void open(int n) {
        tokens = cut(tape.subList(0, n));
        at = 0;
        tape = new ArrayList<>();
        fault = 0;
    }

    private long refuse(int why, long answer) {
        trouble = why;
        return answer;
    }

    private long fail(Fault bad) {
        fault = bad.number;
        place = bad.place;
        return refuse(4, -1);
    }

    long feed(int... numbers) {
        if (tape.size() + 20 > 500) {
            return -1;
        }
        for (int number : numbers) {
            for (byte b : java.nio.ByteBuffer.allocate(4).putInt(number).array()) {
                tape.add(b & 255);
            }
        }
        return tape.size();
    }

    long book(int n) {
        trouble = 0;
        if (n < 0 || n > tape.size()) {
            return refuse(2, -1);
        }
        open(n);
        List<Field> fieldsRead = new ArrayList<>();
        List<List<One>> rulesRead = new ArrayList<>();
        try {
            parseBook(fieldsRead, rulesRead);
        } catch (Fault bad) {
            return fail(bad);
        }
        fields = fieldsRead;
        rules = rulesRead;
        hasBook = true;
        plans = new ArrayList<>();
        rows = new ArrayList<>();
        lots = new ArrayDeque<>();
        told = new HashMap<>();
        groups = new HashMap<>();
        sums = new HashMap<>();
        today = 0;
        agreedField = -1;
        min = 3;
        width = 3;
        m = 10;
        budget = 0;
        return fields.size();
    }

    long table(int n) {
        trouble = 0;
        if (!hasBook) {
            return refuse(1, -1);
        }
        if (n < 0 || n > tape.size()) {
            return refuse(2, -1);
        }
        open(n);
        Plan plan;
        try {
            plan = parseTable();
        } catch (Fault bad) {
            return fail(bad);
        }
        if (plans.size() == 8) {
            return refuse(3, -1);
        }
        plans.add(plan);
        return plans.size() - 1;
    }

    long fault() {
        return fault;
    }

    long where() {
        return trouble == 4 ? place : -1;
    }

    long field(int f, int what) {
        if (f < 0 || f >= fields.size() || what < 0 || what > 1) {
            return -1;
        }
        return what == 0 ? fields.get(f).top : fields.get(f).cost;
    }

    // ---- rows

    private boolean isRow(int row) {
        return row >= 0 && row < rows.size();
    }

    private boolean isValue(int field, int v) {
        return field >= 0 && field < fields.size() && v >= 0 && v <= fields.get(field).top;
    }

    private int broken(int[] v) {
        for (int k = 0; k < rules.size(); k++) {
            if (rules.get(k).stream().allMatch(one -> one.holds(v))) {
                return k;
            }
        }
        return -2;
    }

    private int[] on(int row, int day, int filling) {
        return rows.get(row).states.floorEntry(day).getValue()[filling];
    }

    private boolean there(int row, int day) {
        Row r = rows.get(row);
        return r.states.firstKey() <= day && (r.gone == -2 || day < r.gone);
    }

    private int gaps(int[] v) {
        return (int) Arrays.stream(v).filter(x -> x == -1).count();
    }

    long row(int... six) {
        trouble = 0;
        if (!hasBook) {
            return refuse(1, -1);
        }
        int[] v = Arrays.copyOf(six, fields.size());
        for (int f = 0; f < v.length; f++) {
            if (v[f] != -1 && !isValue(f, v[f])) {
                return refuse(2, -1);
            }
        }
        if (rows.size() == 60) {
            return refuse(3, -1);
        }
        Row r = new Row();
        r.states.put(today, new int[][] {v, v, v, v, v});
        rows.add(r);
        return rows.size() - 1;
    }

    long weight(int row, int w) {
        trouble = 0;
        if (!isRow(row)) {
            return refuse(1, 0);
        }
        if (w < 1 || w > 99) {
            return refuse(2, 0);
        }
        rows.get(row).weight = w;
        return 1;
    }

    long withdraw(int row) {
        trouble = 0;
        if (!isRow(row)) {
            return refuse(1, 0);
        }
        if (rows.get(row).gone != -2) {
            return refuse(5, 0);
        }
        rows.get(row).gone = today;
        return 1;
    }

    long value(int row, int field, int day, int filling) {
        if (!isRow(row) || field < 0 || field >= fields.size() || day < 0 || day > today || filling < 0 || filling > 4
                || day < rows.get(row).states.firstKey()) {
            return -2;
        }
        return on(row, day, filling)[field];
    }

    long of(int row, int what) {
        if (!isRow(row)) {
            return -1;
        }
        Row r = rows.get(row);
        int[] v = on(row, today, 0);
        return switch (what) {
            case 0 -> there(row, today) ? 1 : 0;
            case 1 -> broken(v) >= 0 ? 1 : 0;
            case 2 -> gaps(v);
            case 3 -> r.mended;
            case 4 -> r.filled;
            case 5 -> r.weight;
            case 6 -> broken(v);
            default -> -1;
        };
    }

    private static int[] put(int[] own, List<Integer> set, int[] theirs) {
        int[] v = own.clone();
        for (int f : set) {
            v[f] = theirs[f];
        }
        return v;
    }

    /** The least VALUES of the set's FIELDS, the first counting most, by counting up through all. */
    private int[] leastValues(int[] own, List<Integer> set) {
        int[] v = own.clone();
        for (int f : set) {
            v[f] = 0;
        }
        while (true) {
            if (broken(v) < 0) {
                return v;
            }
            int k = set.size() - 1;
            while (k >= 0 && v[set.get(k)] == fields.get(set.get(k)).top) {
                v[set.get(k)] = 0;
                k--;
            }
            if (k < 0) {
                return null;
            }
            v[set.get(k)]++;
        }
    }

    private static int lexically(List<Integer> a, List<Integer> b) {
        for (int k = 0; k < a.size(); k++) {
            if (!a.get(k).equals(b.get(k))) {
                return a.get(k) - b.get(k);
            }
        }
        return 0;
    }

    private List<List<Integer>> allSets() {
        List<List<Integer>> sets = new ArrayList<>();
        for (int bits = 1; bits < 1 << fields.size(); bits++) {
            List<Integer> set = new ArrayList<>();
            for (int f = 0; f < fields.size(); f++) {
                if ((bits >> f & 1) == 1) {
                    set.add(f);
                }
            }
            sets.add(set);
        }
        Comparator<List<Integer>> order = Comparator.comparingInt(s -> s.stream().mapToInt(f -> fields.get(f).cost).sum());
        sets.sort(order.thenComparingInt(List::size).thenComparing(Model::lexically));
        return sets;
    }

    private int unlike(int[] a, int[] b, List<Integer> but) {
        int unlike = 0;
        for (int f = 0; f < a.length; f++) {
            if (!but.contains(f) && a[f] != b[f]) {
                unlike++;
            }
        }
        return unlike;
    }

    private List<Integer> givers(int row, List<Integer> set, boolean noGapsAtAll) {
        int[] own = on(row, today, 0);
        List<Integer> givers = new ArrayList<>();
        for (int other = 0; other < rows.size(); other++) {
            int[] theirs = on(other, today, 0);
            if (other != row && there(other, today) && broken(theirs) < 0
                    && (noGapsAtAll ? gaps(theirs) == 0 : set.stream().allMatch(f -> theirs[f] >= 0))
                    && broken(put(own, set, theirs)) < 0) {
                givers.add(other);
            }
        }
        int fewest = givers.stream().mapToInt(g -> unlike(own, on(g, today, 0), set)).min().orElse(0);
        givers.removeIf(g -> unlike(own, on(g, today, 0), set) != fewest);
        return givers;
    }

    long mend(int row) {
        trouble = 0;
        if (!isRow(row)) {
            return refuse(1, -1);
        }
        Row r = rows.get(row);
        int[] own = on(row, today, 0);
        if (broken(own) < 0 || r.gone != -2 || r.mended != -2) {
            return refuse(5, -1);
        }
        for (List<Integer> set : allSets()) {
            int[] least = leastValues(own, set);
            if (least == null) {
                continue;
            }
            List<Integer> givers = givers(row, set, false);
            giver = givers.isEmpty() ? -2 : givers.get(0);
            int[] theirs = givers.isEmpty() ? least : on(giver, today, 0);
            int[][] states = new int[5][];
            for (int f = 0; f < 5; f++) {
                states[f] = put(on(row, today, f), set, theirs);
            }
            r.states.put(today, states);
            r.mended = today;
            return set.stream().mapToInt(f -> 1 << f).sum();
        }
        return refuse(6, -1);
    }

    long giver() {
        return giver;
    }

    long fill(int row, int lot) {
        trouble = 0;
        if (!isRow(row)) {
            return refuse(1, -1);
        }
        if (lot < 0 || lot > 999) {
            return refuse(2, -1);
        }
        Row r = rows.get(row);
        int[] own = on(row, today, 0);
        if (gaps(own) == 0 || broken(own) >= 0 || r.gone != -2 || r.filled != -2) {
            return refuse(5, -1);
        }
        List<Integer> set = new ArrayList<>();
        for (int f = 0; f < own.length; f++) {
            if (own[f] == -1) {
                set.add(f);
            }
        }
        List<Integer> givers = givers(row, set, true);
        if (givers.isEmpty()) {
            return refuse(6, -1);
        }
        int[][] states = new int[5][];
        for (int f = 0; f < 5; f++) {
            states[f] = put(own, set, on(givers.get((lot + f) % givers.size()), today, 0));
        }
        r.states.put(today, states);
        r.filled = today;
        return givers.size();
    }

    long pass(int days) {
        trouble = 0;
        if (!hasBook) {
            return refuse(1, -1);
        }
        if (days < 1 || days > 100 || today + days > 999) {
            return refuse(2, -1);
        }
        today += days;
        return today;
    }

    // ---- figures

    private boolean isTable(int table) {
        return table >= 0 && table < plans.size();
    }

    private boolean isCell(int table, int i, int j) {
        if (!isTable(table)) {
            return false;
        }
        List<Integer> by = plans.get(table).by;
        return (by.size() > 0 ? isValue(by.get(0), i) : i == 0) && (by.size() > 1 ? isValue(by.get(1), j) : j == 0);
    }

    private boolean isDay(int day) {
        return day >= 0 && day <= today;
    }

    private List<Integer> rowsOf(Plan plan, int i, int j, int day, int filling) {
        List<Integer> in = new ArrayList<>();
        for (int row = 0; row < rows.size(); row++) {
            if (!there(row, day)) {
                continue;
            }
            int[] v = on(row, day, filling);
            if (broken(v) < 0 && plan.where.stream().allMatch(one -> one.holds(v))
                    && (plan.by.size() < 1 || v[plan.by.get(0)] == i) && (plan.by.size() < 2 || v[plan.by.get(1)] == j)
                    && (plan.sum < 0 || v[plan.sum] != -1)) {
                in.add(row);
            }
        }
        return in;
    }

    private long times(Plan plan, int row, int day, int filling) {
        return plan.sum < 0 ? 1 : on(row, day, filling)[plan.sum];
    }

    private long sum(int table, int i, int j, int day, int filling) {
        Plan plan = plans.get(table);
        return rowsOf(plan, i, j, day, filling).stream()
                .mapToLong(row -> rows.get(row).weight * times(plan, row, day, filling)).sum();
    }

    long figure(int table, int i, int j, int day, int filling) {
        trouble = 0;
        if (!isCell(table, i, j)) {
            return refuse(1, NO);
        }
        if (!isDay(day) || filling < 0 || filling > 4) {
            return refuse(2, NO);
        }
        return sum(table, i, j, day, filling);
    }

    long span(int table, int i, int j, boolean most) {
        trouble = 0;
        if (!isCell(table, i, j)) {
            return refuse(1, NO);
        }
        long[] all = new long[5];
        for (int f = 0; f < 5; f++) {
            all[f] = sum(table, i, j, today, f);
        }
        Arrays.sort(all);
        return most ? all[4] : all[0];
    }

    long far(int table, int i, int j, int day, int other) {
        trouble = 0;
        if (!isCell(table, i, j)) {
            return refuse(1, NO);
        }
        if (!isDay(day) || !isDay(other)) {
            return refuse(2, NO);
        }
        return sum(table, i, j, other, 0) - sum(table, i, j, day, 0);
    }

    long known(int field, int v, int sum) {
        trouble = 0;
        if (!isValue(field, v)) {
            return refuse(1, 0);
        }
        if (sum < 0 || sum > 1000000) {
            return refuse(2, 0);
        }
        if (fields.get(field).top > 2) {
            return refuse(5, 0);
        }
        if (agreedField != field) {
            sums.clear();
        }
        agreedField = field;
        sums.put(v, sum);
        return 1;
    }

    private static BigInteger big(long v) {
        return BigInteger.valueOf(v);
    }

    long agreed(int table, int i, int j, boolean denominator) {
        trouble = 0;
        if (!isCell(table, i, j)) {
            return refuse(1, NO);
        }
        if (agreedField < 0) {
            return refuse(5, NO);
        }
        Plan plan = plans.get(table);
        BigInteger top = BigInteger.ZERO;
        BigInteger bottom = BigInteger.ONE;
        Plan all = new Plan(-1, List.of(agreedField), List.of());
        for (int row : rowsOf(plan, i, j, today, 0)) {
            int v = on(row, today, 0)[agreedField];
            if (v < 0) {
                continue;
            }
            long weights = rowsOf(all, v, 0, today, 0).stream().mapToLong(r -> rows.get(r).weight).sum();
            BigInteger part = big(rows.get(row).weight * times(plan, row, today, 0)).multiply(big(sums.getOrDefault(v, 0)));
            top = top.multiply(big(weights)).add(part.multiply(bottom));
            bottom = bottom.multiply(big(weights));
            BigInteger common = top.gcd(bottom);
            top = top.divide(common);
            bottom = bottom.divide(common);
        }
        return (denominator ? bottom : top).longValueExact();
    }

    long group(int field, int v, int g) {
        trouble = 0;
        if (!isValue(field, v)) {
            return refuse(1, 0);
        }
        if (g < 0 || g > 9) {
            return refuse(2, 0);
        }
        groups.put(List.of(field, v), g);
        return 1;
    }

    private int groupOf(int field, int v) {
        return groups.getOrDefault(List.of(field, v), 0);
    }

    private List<Integer> having(int field, IntPredicate which) {
        List<Integer> having = new ArrayList<>();
        for (int row = 0; row < rows.size(); row++) {
            int[] v = on(row, today, 0);
            if (there(row, today) && broken(v) < 0 && v[field] >= 0 && which.test(v[field])) {
                having.add(row);
            }
        }
        return having;
    }

    private int ofThousand(List<Integer> some, Plan plan) {
        long holding = some.stream().map(row -> on(row, today, 0))
                .filter(v -> plan.where.stream().allMatch(one -> one.holds(v))).count();
        return some.isEmpty() ? 0 : (int) (holding * 1000 / some.size());
    }

    long small(int table, int field, int v, int what) {
        trouble = 0;
        if (!isTable(table) || !isValue(field, v) || what < 0 || what > 3) {
            return refuse(1, -1);
        }
        Plan plan = plans.get(table);
        if (!plan.by.isEmpty()) {
            return refuse(5, -1);
        }
        List<Integer> ownRows = having(field, u -> u == v);
        int own = ofThousand(ownRows, plan);
        int like = ofThousand(having(field, u -> u != v && groupOf(field, u) == groupOf(field, v)), plan);
        int part = ownRows.size() * 1000 / (ownRows.size() + m);
        int joined = (own * part + like * (1000 - part)) / 1000;
        return new int[] {joined, own, like, part}[what];
    }

    // ---- guarded

    long set(int what, int v) {
        trouble = 0;
        if (!hasBook || what < 0 || what > 3) {
            return refuse(1, 0);
        }
        int[][] bounds = {{1, 20}, {1, 50}, {1, 99}, {0, 1000}};
        if (v < bounds[what][0] || v > bounds[what][1]) {
            return refuse(2, 0);
        }
        switch (what) {
            case 0 -> min = v;
            case 1 -> width = v;
            case 2 -> m = v;
            default -> budget = v;
        }
        return 1;
    }

    private int[] shape(Plan plan) {
        int[] shape = {1, 1};
        for (int k = 0; k < plan.by.size(); k++) {
            shape[k] = fields.get(plan.by.get(k)).top + 1;
        }
        return shape;
    }

    /** How many lines and columns a TABLE has, for those who draw calls. */
    int[] shapeOf(int table) {
        return isTable(table) ? shape(plans.get(table)) : new int[] {1, 1};
    }

    private int[][] rowCounts(Plan plan) {
        int[] shape = shape(plan);
        int[][] counts = new int[shape[0]][shape[1]];
        for (int i = 0; i < shape[0]; i++) {
            for (int j = 0; j < shape[1]; j++) {
                counts[i][j] = rowsOf(plan, i, j, today, 0).size();
            }
        }
        return counts;
    }

    private boolean guarded(int table) {
        Plan plan = plans.get(table);
        int[] shape = shape(plan);
        return plan.sum < 0 && plan.by.size() == 2 && shape[0] * shape[1] <= 60;
    }

    private boolean isShy(int count) {
        return count >= 1 && count <= min - 1;
    }

    long shy(int table) {
        trouble = 0;
        if (!isTable(table)) {
            return refuse(1, -1);
        }
        if (!guarded(table)) {
            return refuse(5, -1);
        }
        return Arrays.stream(rowCounts(plans.get(table))).flatMapToInt(Arrays::stream).filter(this::isShy).count();
    }

    private static boolean in(long out, int cell) {
        return (out >> cell & 1) == 1;
    }

    /** Whether CELLS left out can be whole numbers with the same sums, one of them being t: by filling up sums. */
    private static boolean can(int[][] counts, long out, int ci, int cj, int t) {
        int lines = counts.length;
        int columns = counts[0].length;
        int[] needLine = new int[lines];
        int[] needColumn = new int[columns];
        for (int i = 0; i < lines; i++) {
            for (int j = 0; j < columns; j++) {
                if (in(out, i * columns + j)) {
                    needLine[i] += counts[i][j];
                    needColumn[j] += counts[i][j];
                }
            }
        }
        needLine[ci] -= t;
        needColumn[cj] -= t;
        if (needLine[ci] < 0 || needColumn[cj] < 0) {
            return false;
        }
        int[][] x = new int[lines][columns];
        for (int i = 0; i < lines; i++) {
            for (; needLine[i] > 0; needLine[i]--) {
                boolean[] seen = new boolean[columns];
                if (!place(i, x, needColumn, out & ~(1L << ci * columns + cj), seen)) {
                    return false;
                }
            }
        }
        return true;
    }

    private static boolean place(int i, int[][] x, int[] needColumn, long free, boolean[] seen) {
        int columns = needColumn.length;
        for (int j = 0; j < columns; j++) {
            if (!in(free, i * columns + j) || seen[j]) {
                continue;
            }
            seen[j] = true;
            if (needColumn[j] > 0) {
                needColumn[j]--;
                x[i][j]++;
                return true;
            }
            for (int other = 0; other < x.length; other++) {
                if (x[other][j] > 0) {
                    x[other][j]--;
                    if (place(other, x, needColumn, free, seen)) {
                        x[i][j]++;
                        return true;
                    }
                    x[other][j]++;
                }
            }
        }
        return false;
    }

    private static int edge(int[][] counts, long out, int i, int j, boolean high) {
        int found = -1;
        for (int t = 0; t <= 60; t++) {
            if (can(counts, out, i, j, t)) {
                if (!high) {
                    return t;
                }
                found = t;
            }
        }
        return found;
    }

    long edge(int table, int i, int j, long out, boolean high) {
        trouble = 0;
        if (!isCell(table, i, j)) {
            return refuse(1, -1);
        }
        if (!guarded(table)) {
            return refuse(5, -1);
        }
        int[] shape = shape(plans.get(table));
        if (!in(out, i * shape[1] + j)) {
            return refuse(5, -1);
        }
        if (out >> shape[0] * shape[1] != 0) {
            return refuse(2, -1);
        }
        return edge(rowCounts(plans.get(table)), out, i, j, high);
    }

    private boolean isWide(int[][] counts, long out) {
        for (int i = 0; i < counts.length; i++) {
            for (int j = 0; j < counts[0].length; j++) {
                if (isShy(counts[i][j]) && (!in(out, i * counts[0].length + j)
                        || edge(counts, out, i, j, true) - edge(counts, out, i, j, false) < width)) {
                    return false;
                }
            }
        }
        return true;
    }

    long wide(int table, long out) {
        trouble = 0;
        if (!isTable(table)) {
            return refuse(1, -1);
        }
        if (!guarded(table)) {
            return refuse(5, -1);
        }
        int[] shape = shape(plans.get(table));
        if (out >> shape[0] * shape[1] != 0) {
            return refuse(2, -1);
        }
        return isWide(rowCounts(plans.get(table)), out) ? 1 : 0;
    }

    long least(int table) {
        trouble = 0;
        if (!isTable(table)) {
            return refuse(1, -3);
        }
        int[] shape = shape(plans.get(table));
        if (!guarded(table) || shape[0] * shape[1] > 12) {
            return refuse(5, -3);
        }
        int[][] counts = rowCounts(plans.get(table));
        List<Integer> sets = new ArrayList<>();
        for (int bits = 0; bits < 1 << shape[0] * shape[1]; bits++) {
            sets.add(bits);
        }
        Comparator<Integer> order = Comparator.comparingInt(set -> {
            int sum = 0;
            for (int cell = 0; cell < shape[0] * shape[1]; cell++) {
                sum += in(set, cell) ? counts[cell / shape[1]][cell % shape[1]] : 0;
            }
            return sum;
        });
        sets.sort(order.thenComparingInt(Integer::bitCount).thenComparingInt(set -> set));
        return sets.stream().filter(set -> isWide(counts, set)).findFirst().orElse(-2);
    }

    long differing(int a, int b) {
        trouble = 0;
        if (!isTable(a) || !isTable(b)) {
            return refuse(1, -1);
        }
        Plan one = plans.get(a);
        Plan two = plans.get(b);
        if (one.sum >= 0 || two.sum >= 0 || !one.by.equals(two.by)) {
            return refuse(5, -1);
        }
        int[][] first = rowCounts(one);
        int[][] second = rowCounts(two);
        int differing = 0;
        for (int i = 0; i < first.length; i++) {
            for (int j = 0; j < first[0].length; j++) {
                int apart = Math.abs(first[i][j] - second[i][j]);
                differing += apart >= 1 && apart <= min - 1 ? 1 : 0;
            }
        }
        return differing;
    }

    long lot(int v) {
        trouble = 0;
        if (!hasBook) {
            return refuse(1, -1);
        }
        if (v < -9 || v > 9) {
            return refuse(2, -1);
        }
        if (lots.size() == 100) {
            return refuse(3, -1);
        }
        lots.add(v);
        return lots.size();
    }

    long noise(int table, int i, int j) {
        trouble = 0;
        if (!isCell(table, i, j)) {
            return refuse(1, NO);
        }
        long figure = sum(table, i, j, today, 0);
        long[] last = told.get(List.of(table, i, j));
        if (last != null && last[0] == figure) {
            return last[1];
        }
        if (lots.isEmpty() || budget == 0) {
            return refuse(5, NO);
        }
        budget--;
        long answer = Math.max(0, figure + lots.remove());
        told.put(List.of(table, i, j), new long[] {figure, answer});
        return answer;
    }

    long led(int table, int i, int j, int k) {
        if (!isCell(table, i, j)) {
            throw new NoSuchElementException();
        }
        List<Integer> in = rowsOf(plans.get(table), i, j, today, 0);
        if (k < 0 || k >= in.size()) {
            throw new NoSuchElementException();
        }
        return in.get(k);
    }

    long count(int what) {
        return switch (what) {
            case 0 -> fields.size();
            case 1 -> rules.size();
            case 2 -> rows.size();
            case 3 -> plans.size();
            case 4 -> today;
            case 5 -> java.util.stream.IntStream.range(0, rows.size())
                    .filter(row -> there(row, today) && broken(on(row, today, 0)) >= 0).count();
            case 6 -> rows.stream().filter(r -> r.mended != -2).count();
            case 7 -> rows.stream().filter(r -> r.filled != -2).count();
            case 8 -> lots.size();
            case 9 -> budget;
            case 10 -> tape.size();
            default -> -1;
        };
    }

    long trouble() {
        return trouble;
    }
}
