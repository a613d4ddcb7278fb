import java.lang.reflect.Constructor;
import java.lang.reflect.InvocationTargetException;
import java.lang.reflect.Method;
import java.lang.reflect.Modifier;
import java.util.ArrayList;
import java.util.Arrays;
import java.util.List;
import java.util.TreeSet;

/** The public face, and that no call throws but as the document says, whatever its arguments. */
public final class FaceTest {
    private static final String FACE = "town1 deed2 marks0 state1 rise0 set2 may1 pair2 even1 lasts3 why3 behind3 least3"
            + " free3 plan3 ever0 help0 two5 month0 nail1 byLaw3 seeded3 judge3 image0 restore0 count1 keep3 row3 put3"
            + " element2 copy5 care1 toss1";
    private static final int[] EXTREMES = {Integer.MIN_VALUE, -1, 0, 1, 3, 7, 255, Integer.MAX_VALUE};
    private static final int CALLS = 512;

    public static void main(String[] args) throws ReflectiveOperationException {
        members();
        extremes();
        Due.end();
    }

    private static void members() {
        Class<?> face = BackwardYears.class;
        Due.is(1, "public and final", face.getModifiers() & (Modifier.PUBLIC | Modifier.FINAL),
                Modifier.PUBLIC | Modifier.FINAL);
        TreeSet<String> found = new TreeSet<>();
        TreeSet<String> hidden = new TreeSet<>();
        for (Method method : face.getDeclaredMethods()) {
            if (Modifier.isPublic(method.getModifiers())) {
                found.add(method.getName() + method.getParameterCount());
                Due.is(1, "the type of " + method, method.getReturnType() == int.class
                        || method.getName().equals("element") && method.getReturnType() == long.class ? 1 : 0, 1);
            } else {
                hidden.add(method.getName());
                Due.is(1, "private: " + method, Modifier.isPrivate(method.getModifiers()) ? 1 : 0, 1);
            }
        }
        TreeSet<String> due = new TreeSet<>(Arrays.asList(FACE.split(" ")));
        Due.is(1, "the methods " + found, found.equals(due) ? 1 : 0, 1);
        hidden.removeIf(name -> due.stream().noneMatch(d -> d.substring(0, d.length() - 1).equals(name)));
        Due.is(1, "private methods with a public one's name " + hidden, hidden.size(), 0);
        Constructor<?>[] constructors = face.getDeclaredConstructors();
        Due.is(1, "constructors", constructors.length, 1);
        Due.is(1, "constructor's parameters", constructors[0].getParameterCount(), 0);
        Due.is(1, "public fields", face.getFields().length, 0);
        for (Class<?> inside : face.getDeclaredClasses()) {
            Due.is(1, "private and static: " + inside, inside.getModifiers() & (Modifier.PRIVATE | Modifier.STATIC),
                    Modifier.PRIVATE | Modifier.STATIC);
        }
    }

    private static List<BackwardYears> objects() {
        BackwardYears some = Due.town("d0 a1 1;d1a b2 2;d6 a3 3;d7 b4 9;d3c d5 5;ma;n9 -4;");
        Due.list(some, 0, 0, 1, 2);
        Due.list(some, 1, 3, 2, 1, 0, 4, 1, 2, 3);
        Due.row(some, 3, Due.INTS, 1, 2, 3, 4, 5, 6, 7, 8, 9, 10);
        some.keep(7, 1, 3);
        some.image();
        BackwardYears full = Due.town(TownsTest.ALL_KINDS + "n99 +9;c9999;l1;");
        for (int d = 0; d < 8; d++) {
            Due.list(full, d, d, 7 - d, d, 0, 7);
        }
        return List.of(new BackwardYears(), some, full);
    }

    private static void extremes() throws ReflectiveOperationException {
        for (String call : FACE.split(" ")) {
            int parameters = call.charAt(call.length() - 1) - '0';
            Class<?>[] types = new Class<?>[parameters];
            Arrays.fill(types, int.class);
            Method method = BackwardYears.class.getMethod(call.substring(0, call.length() - 1), types);
            List<BackwardYears> asked = new ArrayList<>();
            for (int k = 0; k < Math.pow(EXTREMES.length, parameters); k++) {
                // An object is used for so many calls at most, and each call leaves what it did.
                if (k % (CALLS - 100) == 0) {
                    asked = objects();
                }
                Object[] values = new Object[parameters];
                for (int i = 0, rest = k; i < parameters; i++, rest /= EXTREMES.length) {
                    values[i] = EXTREMES[rest % EXTREMES.length];
                }
                for (BackwardYears x : asked) {
                    Due.is(1, call + Arrays.toString(values) + " throws nothing", thrown(method, x, values), 0);
                }
            }
        }
    }

    private static int thrown(Method method, BackwardYears x, Object[] values) throws IllegalAccessException {
        try {
            method.invoke(x, values);
            return 0;
        } catch (InvocationTargetException e) {
            Class<?> thrown = e.getCause().getClass();
            boolean told = thrown == IllegalArgumentException.class || thrown == IllegalStateException.class;
            return told && method.getName().equals("element") ? 0 : 1;
        }
    }
}
