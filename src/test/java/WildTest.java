import java.lang.reflect.InvocationTargetException;
import java.lang.reflect.Method;
import java.lang.reflect.Modifier;
import java.util.ArrayList;
import java.util.Arrays;
import java.util.Comparator;
import java.util.HashSet;
import java.util.List;
import java.util.Random;
import java.util.Set;

/** Calls with any numbers: none throws but element, no refusal and no question changes anything. */
public final class WildTest {
    private static final int OBJECTS = 400;
    private static final int CALLS = 512;
    private static final Set<String> CHANGING = new HashSet<>(Arrays.asList("coach", "comes", "tips", "blocks", "hour",
        "change", "rounds", "restore", "keep", "row", "put", "copy"));
    private static final int[] ODD = {-2147483648, -2147483647, -1000000001, -32769, -129, -2, -1, 31, 32, 33, 60, 61,
        64, 80, 81, 100, 101, 256, 999, 1000, 65536, 1000000001, 2147483646, 2147483647};

    private static int wrong = 0;

    private static void tell(String what) {
        wrong++;
        if (wrong < 40) {
            System.out.println(what);
        }
    }

    public static void main(String[] args) throws IllegalAccessException {
        List<Method> face = new ArrayList<>();
        for (Method method : TippedIntoTheNextLap.class.getDeclaredMethods()) {
            if (Modifier.isPublic(method.getModifiers())) {
                face.add(method);
            }
        }
        face.sort(Comparator.comparing(Method::getName));
        Random draws = new Random(7L);
        for (int k = 0; k < OBJECTS; k++) {
            objectUsed(face, draws);
        }
        System.out.println(wrong == 0 ? "no call goes wild" : wrong + " calls go wild");
        if (wrong != 0) {
            System.exit(1);
        }
    }

    private static void objectUsed(List<Method> face, Random draws) throws IllegalAccessException {
        TippedIntoTheNextLap x = new TippedIntoTheNextLap();
        TippedIntoTheNextLap y = new TippedIntoTheNextLap();
        String was = state(x);
        for (int c = 0; c < CALLS; c++) {
            Method method = face.get(draws.nextInt(face.size()));
            if (c < 40) {
                method = named(face, draws.nextInt(2) == 0 ? "keep" : "comes");
            }
            Object[] with = new Object[method.getParameterCount()];
            for (int i = 0; i < with.length; i++) {
                with[i] = number(draws);
            }
            String call = method.getName() + Arrays.toString(with);
            Object answer = answered(method, x, with);
            if (!answer.equals(answered(method, y, with))) {
                tell(call + " answers two things");
            }
            String is = state(x);
            boolean refused = answer instanceof Integer && (Integer) answer < 0;
            boolean may = CHANGING.contains(method.getName()) && !refused;
            if (!may && !is.equals(was)) {
                tell(call + " answered " + answer + " and made of " + was + " this: " + is);
            }
            was = is;
        }
    }

    private static Method named(List<Method> face, String name) {
        for (Method method : face) {
            if (method.getName().equals(name)) {
                return method;
            }
        }
        throw new IllegalStateException(name);
    }

    private static int number(Random draws) {
        switch (draws.nextInt(12)) {
            case 0: return ODD[draws.nextInt(ODD.length)];
            case 1: return draws.nextInt();
            case 2: return draws.nextInt(120) - 10;
            case 3:
            case 4:
            case 5: return draws.nextInt(12) - 2;
            default: return draws.nextInt(4);
        }
    }

    private static Object answered(Method method, TippedIntoTheNextLap x, Object[] with) throws IllegalAccessException {
        try {
            return method.invoke(x, with);
        } catch (InvocationTargetException e) {
            Class<?> kind = e.getCause().getClass();
            boolean due = method.getName().equals("element")
                && (kind == IllegalArgumentException.class || kind == IllegalStateException.class);
            if (!due) {
                tell(method.getName() + Arrays.toString(with) + " throws " + e.getCause());
            }
            return kind.getName();
        }
    }

    /** All that can be told of an object without changing it. */
    private static String state(TippedIntoTheNextLap x) {
        StringBuilder all = new StringBuilder();
        for (int i = 0; i < 7; i++) {
            all.append(x.count(i)).append(' ');
        }
        for (int i = 0; i < x.count(0); i++) {
            for (int w = 0; w < 8; w++) {
                all.append(x.seat(i, w)).append(' ');
            }
        }
        for (int d = 0; d < 8; d++) {
            all.append('|').append(x.cost(d)).append(' ').append(x.toss(d));
            for (int i = 0; x.copy(d, i, d, i, 1) == 1; i++) {
                all.append(' ').append(x.element(d, i));
            }
        }
        return all.toString();
    }
}
