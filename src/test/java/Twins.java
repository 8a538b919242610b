import java.util.List;
import java.util.NoSuchElementException;
import java.util.function.Supplier;
import java.util.function.ToLongFunction;

/** Two offices made alike: one is refused a call, the other isn't asked; then both must answer alike. */
final class Twins {
    static final long THROWN = Long.MIN_VALUE + 1;

    private final Checks checks;
    private final Supplier<Desk> maker;

    Twins(Checks checks, Supplier<Desk> maker) {
        this.checks = checks;
        this.maker = maker;
    }

    /** A call that is refused with an answer and a TROUBLE; all stays as it was. */
    void refused(String call, ToLongFunction<CountOffice> asked, long answer, int trouble) {
        Desk one = maker.get();
        Desk other = maker.get();
        checks.dueWith(one.x, call, asked.applyAsLong(one.x), answer, trouble);
        checks.due(call + ", then where()", one.x.where(), CountOffice.NONE);
        checks.due(call + ", then fault()", one.x.fault(), other.x.fault());
        alike(checks, call, one.x, other.x);
    }

    /** A call that is refused with NONE (what it is of: a number) and a TROUBLE. */
    void none(String call, ToLongFunction<CountOffice> asked, int trouble) {
        refused(call, asked, CountOffice.NONE, trouble);
    }

    void noFigure(String call, ToLongFunction<CountOffice> asked, int trouble) {
        refused(call, asked, Checks.NO_FIGURE, trouble);
    }

    void no(String call, ToBool asked, int trouble) {
        refused(call, x -> asked.of(x) ? 1 : 0, 0, trouble);
    }

    /** A call that can't be refused; neither its answer nor anything else is another one behind it. */
    void quiet(String call, ToLongFunction<CountOffice> asked, long answer) {
        Desk one = maker.get();
        Desk other = maker.get();
        checks.due(call, answerOf(one.x, asked), answer);
        checks.due(call + " again", answerOf(one.x, asked), answer);
        checks.due(call + ", then trouble()", one.x.trouble(), other.x.trouble());
        checks.due(call + ", then where()", one.x.where(), other.x.where());
        checks.due(call + ", then fault()", one.x.fault(), other.x.fault());
        alike(checks, call, one.x, other.x);
    }

    /** A text with a FAULT: THE TAPE is empty behind it, all else stays. */
    void faulty(boolean book, String text, int fault, int place) {
        Desk one = maker.get();
        Desk other = maker.get();
        String call = (book ? "book of " : "table of ") + text;
        checks.dueWith(one.x, call, book ? one.book(text) : one.table(text), CountOffice.NONE, 4);
        checks.due(call + ", then fault()", one.x.fault(), fault);
        checks.due(call + ", then where()", one.x.where(), place);
        checks.due(call + ", then count(10)", one.x.count(10), 0);
        alike(checks, call, one.x, other.x);
    }

    static void alike(Checks checks, String behind, CountOffice one, CountOffice other) {
        List<String> got = Probe.of(one);
        List<String> want = Probe.of(other);
        int same = 0;
        while (same < got.size() && same < want.size() && got.get(same).equals(want.get(same))) {
            same++;
        }
        boolean all = same == got.size() && same == want.size();
        String apart = all ? "" : "; " + (same < got.size() ? got.get(same) : "nothing more") + ", of its twin "
                + (same < want.size() ? want.get(same) : "nothing more");
        checks.due("behind " + behind + " all stays" + apart, all, true);
    }

    private static long answerOf(CountOffice x, ToLongFunction<CountOffice> asked) {
        try {
            return asked.applyAsLong(x);
        } catch (NoSuchElementException none) {
            return THROWN;
        }
    }

    interface ToBool {
        boolean of(CountOffice x);
    }
}
