import java.lang.reflect.InvocationTargetException;
import java.lang.reflect.Method;
import java.util.NoSuchElementException;

/** Whatever is asked in whatever state, only led() throws, and it NoSuchElementException alone. */
public final class WildTests {
    private static final Checks CHECKS = new Checks("WildTests");
    private static final int[] WILD = {0, 1, -1, 2, 3, 5, 6, 7, 8, 9, 10, 12, 20, 59, 60, 61, 63, 64, 65, 99, 100, 500, 501, 999,
        1000, 1000000, 1 << 30, Integer.MAX_VALUE, Integer.MIN_VALUE, -2, -100};
    private static final String[] TEXTS = {"", "count", "count by a, b", "sum b by b, a where a < b", "count by c, d",
        "field a top 2 cost 1; field b top 2 cost 2; never a = 1 and b = 2", "count where a = 1",
        "field a top 9 cost 1; field b top 9 cost 1; field c top 9 cost 1; field d top 9 cost 9; field e top 1 cost 1;"
            + "never a = b and c = d; never a > e and b > e and c > e and d > e; never a < b; never e = 1 and d < c",
        "field a top 9 cost 1; field b top 5 cost 1; field c top 2 cost 1; never a = 7", "no text at all \0\1\177"};

    private static long seed = 77;

    public static void main(String[] args) {
        Method[] methods = CountOffice.class.getMethods();
        for (int run = 0; run < 300; run++) {
            play(methods);
        }
        CHECKS.close();
    }

    private static int draw(int below) {
        seed = seed * 6364136223846793005L + 1442695040888963407L;
        return (int) ((seed >>> 33) % below);
    }

    private static void play(Method[] methods) {
        Desk desk = new Desk();
        for (int call = 0; call < 450; call++) {
            if (draw(40) == 0 || call < 4) {
                text(desk, call);
            } else if (call < 40 && draw(2) == 0) {
                desk.x.row(draw(4) - 1, draw(4) - 1, draw(3) - 1, draw(3) - 1, draw(2), draw(2));
            } else {
                ask(desk.x, methods[draw(methods.length)]);
            }
        }
    }

    private static void text(Desk desk, int call) {
        String text = TEXTS[call == 0 ? 5 + draw(4) : draw(TEXTS.length)];
        if (text.startsWith("field")) {
            if (call < 4 || draw(8) == 0) {
                desk.book(text);
            }
        } else {
            desk.table(text);
        }
    }

    private static void ask(CountOffice x, Method method) {
        if (method.getDeclaringClass() != CountOffice.class || method.getName().equals("book") && draw(5) != 0) {
            return;
        }
        Class<?>[] types = method.getParameterTypes();
        Object[] given = new Object[types.length];
        StringBuilder told = new StringBuilder(method.getName());
        for (int k = 0; k < types.length; k++) {
            int v = draw(2) == 0 ? draw(3) : WILD[draw(WILD.length)];
            if (types[k] == int.class) {
                given[k] = v;
            } else if (types[k] == long.class) {
                given[k] = draw(2) == 0 ? (long) v : (long) draw(1 << 30) << draw(35) | draw(1 << 20);
            } else {
                given[k] = v > 1;
            }
            told.append(' ').append(given[k]);
        }
        boolean fine = true;
        try {
            method.invoke(x, given);
        } catch (InvocationTargetException thrown) {
            fine = method.getName().equals("led") && thrown.getCause().getClass() == NoSuchElementException.class;
        } catch (IllegalAccessException hidden) {
            fine = false;
        }
        CHECKS.due(told + " throws nothing that it should not", fine, true);
    }
}
