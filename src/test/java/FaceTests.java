import java.lang.reflect.Constructor;
import java.lang.reflect.Field;
import java.lang.reflect.Method;
import java.lang.reflect.Modifier;
import java.util.Arrays;
import java.util.List;
import java.util.Set;
import java.util.TreeSet;

/** The public face is the document's, and the classes keep to rules 1, 2, 5 and 11 of LANGUAGE.md. */
public final class FaceTests {
    private static final Checks CHECKS = new Checks("FaceTests");
    private static final String[] FACE = {
        "int feed(int,int,int,int,int)", "int book(int)", "int table(int)", "int fault()", "int where()",
        "int field(int,int)", "int row(int,int,int,int,int,int)", "boolean weight(int,int)", "boolean withdraw(int)",
        "int value(int,int,int,int)", "int of(int,int)", "int mend(int)", "int giver()", "int fill(int,int)",
        "int pass(int)", "long figure(int,int,int,int,int)", "long span(int,int,int,boolean)",
        "long far(int,int,int,int,int)", "boolean known(int,int,int)", "long agreed(int,int,int,boolean)",
        "boolean group(int,int,int)", "int small(int,int,int,int)", "boolean set(int,int)", "int shy(int)",
        "int edge(int,int,int,long,boolean)", "int wide(int,long)", "int least(int)", "int differing(int,int)",
        "int lot(int)", "long noise(int,int,int)", "int led(int,int,int,int)", "int count(int)", "int trouble()"};

    public static void main(String[] args) throws Exception {
        face();
        List<Class<?>> inside = Arrays.asList(CountOffice.class.getDeclaredClasses());
        CHECKS.due("some twelve classes", inside.size() + 1 <= 12, true);
        look(CountOffice.class);
        for (Class<?> one : inside) {
            int marks = one.getModifiers();
            CHECKS.due(one + " is static, not public or protected",
                    Modifier.isStatic(marks) && !Modifier.isPublic(marks) && !Modifier.isProtected(marks), true);
            CHECKS.due(one + " holds no class", one.getDeclaredClasses().length, 0);
            look(one);
        }
        CHECKS.close();
    }

    private static void face() throws Exception {
        Class<?> office = CountOffice.class;
        CHECKS.due("public and final", office.getModifiers(), Modifier.PUBLIC | Modifier.FINAL);
        CHECKS.due("no package", office.getPackageName().isEmpty(), true);
        Set<String> due = new TreeSet<>(Arrays.asList(FACE));
        for (Method method : office.getDeclaredMethods()) {
            if (!Modifier.isPrivate(method.getModifiers())) {
                CHECKS.due(method + " is public and of the face",
                        method.getModifiers() == Modifier.PUBLIC && due.remove(told(method)), true);
                List<Class<?>> thrown = Arrays.asList(method.getExceptionTypes());
                CHECKS.due(method + " throws what it should",
                        method.getName().equals("led") ? thrown.equals(List.of(java.util.NoSuchElementException.class))
                                : thrown.isEmpty(), true);
            }
        }
        CHECKS.due("all of the face but " + due, due.size(), 0);
        Constructor<?>[] made = office.getDeclaredConstructors();
        CHECKS.due("one constructor", made.length == 1 && made[0].getParameterCount() == 0
                && Modifier.isPublic(made[0].getModifiers()), true);
        for (Field field : office.getDeclaredFields()) {
            CHECKS.due(field + " is private", Modifier.isPrivate(field.getModifiers()), !field.getName().equals("NONE"));
        }
        CHECKS.due("NONE", office.getField("NONE").getInt(null), -1);
    }

    private static String told(Method method) {
        StringBuilder told = new StringBuilder(method.getReturnType() + " " + method.getName() + "(");
        for (Class<?> type : method.getParameterTypes()) {
            told.append(told.charAt(told.length() - 1) == '(' ? "" : ",").append(type);
        }
        return told.append(")").toString();
    }

    private static void look(Class<?> one) {
        int fields = 0;
        for (Field field : one.getDeclaredFields()) {
            if (!Modifier.isStatic(field.getModifiers())) {
                fields++;
                continue;
            }
            Class<?> type = field.getType();
            CHECKS.due(field + " is final and of an allowed type", Modifier.isFinal(field.getModifiers())
                    && List.of(int.class, long.class, boolean.class, char.class, String.class, int[].class, long[].class,
                            char[].class, byte[].class).contains(type), true);
        }
        CHECKS.due("some twenty fields in " + one + ", not " + fields, fields <= 20, true);
        Set<String> names = new TreeSet<>();
        for (String call : FACE) {
            names.add(call.substring(call.indexOf(' ') + 1, call.indexOf('(')));
        }
        for (Method method : one.getDeclaredMethods()) {
            CHECKS.due(method + " has seven parameters at most", method.getParameterCount() <= 7, true);
            CHECKS.due(method + " is not made by the compiler", method.isSynthetic(), false);
            CHECKS.due(method + " is no equals, hashCode, toString",
                    List.of("equals", "hashCode", "toString", "finalize").contains(method.getName()), false);
            if (!Modifier.isPublic(method.getModifiers())) {
                CHECKS.due(method + " bears no public name", names.contains(method.getName()), false);
            }
        }
    }
}
