import java.util.NoSuchElementException;

/** Compares what calls answer with what is due, and tells each answer that is not. */
final class Checks {
    static final long NO_FIGURE = Long.MIN_VALUE;

    private final String title;
    private String promise = "";
    private int made;
    private int wrong;

    Checks(String title) {
        this.title = title;
    }

    void promise(int number, String name) {
        promise = "promise " + number + " (" + name + ")";
    }

    /** The words of the document by which the next answers are due, and where they stand in it. */
    void sentence(String place, String words) {
        promise = place + ", \"" + words + "\"";
    }

    void due(String call, long got, long want) {
        made++;
        if (got != want) {
            wrong++;
            System.out.println(promise + ": " + call + " answered " + got + ", due is " + want);
        }
    }

    void due(String call, boolean got, boolean want) {
        due(call, got ? 1 : 0, want ? 1 : 0);
    }

    /** A call that answered, and the TROUBLE behind it. */
    void dueWith(CountOffice x, String call, long got, long want, int trouble) {
        due(call, got, want);
        due(call + ", then trouble()", x.trouble(), trouble);
    }

    void dueWith(CountOffice x, String call, boolean got, boolean want, int trouble) {
        dueWith(x, call, got ? 1 : 0, want ? 1 : 0, trouble);
    }

    void dueLed(CountOffice x, int table, int i, int j, int k, int want) {
        String call = "led(" + table + ", " + i + ", " + j + ", " + k + ")";
        try {
            due(call, x.led(table, i, j, k), want);
        } catch (NoSuchElementException none) {
            due(call + " throws", 1, 0);
        }
    }

    void dueNotLed(CountOffice x, int table, int i, int j, int k) {
        String call = "led(" + table + ", " + i + ", " + j + ", " + k + ") throws";
        boolean thrown = false;
        try {
            x.led(table, i, j, k);
        } catch (NoSuchElementException none) {
            thrown = true;
        }
        due(call, thrown, true);
    }

    void close() {
        System.out.println(title + ": " + (made - wrong) + " of " + made + " answers are as due");
        if (wrong != 0 || made == 0) {
            System.exit(1);
        }
    }
}
