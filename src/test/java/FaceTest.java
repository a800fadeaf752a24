import java.io.IOException;
import java.lang.reflect.Constructor;
import java.lang.reflect.Field;
import java.lang.reflect.Method;
import java.lang.reflect.Modifier;
import java.nio.file.Files;
import java.nio.file.Path;
import java.util.ArrayList;
import java.util.Arrays;
import java.util.HashSet;
import java.util.List;
import java.util.Set;
import java.util.TreeSet;

/** The public face is the document's and no more, and the source keeps to what ../shared/LANGUAGE.md lets be seen. */
public final class FaceTest {
    private static final String SOURCE = "src/main/java/TippedIntoTheNextLap.java";
    private static final String[] FACE = {
        "int coach(int)", "int seat(int,int)", "int comes(int)", "int tips(int,int)", "int blocks(int)",
        "int hour(int)", "int change(int,int)", "int rounds(int)", "int behind(int,int,int)", "int still()",
        "int run(int,int)", "int longest(int,int)", "int began(int)", "int lost(int)", "int best(int)",
        "int laws(int)", "int pays(int)", "int price(int)", "int order(int,int)", "int swap(int)", "int stops(int)",
        "int ask(int)", "int bestHour(int)", "int two(int)", "long looksRound(int,int,int)",
        "int whatIs(int,int,int)", "long mean(int)", "int tightest(int)", "int forged(int)", "int judge(int)",
        "int trips(int,int,int)", "int image()", "int restore()", "int count(int)", "int keep(int,int,int,int)",
        "int row(int,int,int)", "int put(int,int,int)",
        "long element(int,int) throws java.lang.IllegalArgumentException,java.lang.IllegalStateException",
        "int copy(int,int,int,int,int)", "int cost(int)", "int toss(int)"};
    private static final String[] RULED_OUT = {"->", "::", "finally", "assert", "synchronized", "Exact", "import java.io",
        "getMessage", "instanceof Object", "Random", "currentTime", "nanoTime", "Thread", "hashCode", "toString",
        "ArrayIndexOutOfBounds", "NullPointer", "ClassCast", "NegativeArraySize", "ArrayStore", "Throwable",
        "catch (Exception", "catch (RuntimeException", "catch (ArithmeticException", "catch (IndexOutOfBounds"};

    private static int wrong = 0;

    private static void hold(boolean so, String what) {
        if (!so) {
            wrong++;
            System.out.println("not so: " + what);
        }
    }

    public static void main(String[] args) throws IOException {
        Class<?> face = TippedIntoTheNextLap.class;
        hold(Modifier.isPublic(face.getModifiers()) && Modifier.isFinal(face.getModifiers()), "public final class");
        constructors(face);
        methods(face);
        fields(face);
        classes(face);
        source();
        System.out.println(wrong == 0 ? "the face is as told" : wrong + " things are wrong");
        if (wrong != 0) {
            System.exit(1);
        }
    }

    private static void constructors(Class<?> face) {
        Constructor<?>[] all = face.getDeclaredConstructors();
        hold(all.length == 1 && all[0].getParameterCount() == 0 && Modifier.isPublic(all[0].getModifiers()),
            "one public constructor without parameters");
    }

    private static String told(Method method) {
        List<String> parameters = new ArrayList<>();
        for (Class<?> type : method.getParameterTypes()) {
            parameters.add(type.getName());
        }
        List<String> thrown = new ArrayList<>();
        for (Class<?> type : method.getExceptionTypes()) {
            thrown.add(type.getName());
        }
        return method.getReturnType().getName() + " " + method.getName() + "(" + String.join(",", parameters) + ")"
            + (thrown.isEmpty() ? "" : " throws " + String.join(",", thrown));
    }

    private static void methods(Class<?> face) {
        Set<String> open = new TreeSet<>();
        Set<String> names = new HashSet<>();
        for (Method method : face.getDeclaredMethods()) {
            if (Modifier.isPublic(method.getModifiers())) {
                hold(!Modifier.isStatic(method.getModifiers()), method + " is of an object");
                open.add(told(method));
                names.add(method.getName());
            } else {
                hold(Modifier.isPrivate(method.getModifiers()), method + " is private");
            }
        }
        hold(open.equals(new TreeSet<>(Arrays.asList(FACE))), "the public methods are the document's");
        for (Class<?> inside : face.getDeclaredClasses()) {
            for (Method method : inside.getDeclaredMethods()) {
                hold(!names.contains(method.getName()), method + " bears no public name");
            }
        }
        for (Method method : face.getDeclaredMethods()) {
            hold(Modifier.isPublic(method.getModifiers()) || !names.contains(method.getName()),
                method + " bears no public name");
            hold(method.getParameterCount() <= 7, method + " takes at most seven");
        }
    }

    private static void fields(Class<?> face) {
        for (Field field : face.getDeclaredFields()) {
            hold(Modifier.isPrivate(field.getModifiers()), field + " is private");
            hold(!Modifier.isStatic(field.getModifiers()) || Modifier.isFinal(field.getModifiers()), field + " is final");
        }
    }

    private static void classes(Class<?> face) {
        for (Class<?> inside : face.getDeclaredClasses()) {
            hold(!Modifier.isPublic(inside.getModifiers()) && Modifier.isStatic(inside.getModifiers()),
                inside + " is static and not public");
        }
    }

    private static void source() throws IOException {
        String text = Files.readString(Path.of(SOURCE));
        for (String word : RULED_OUT) {
            hold(!text.contains(word), "the source does without " + word);
        }
        for (int i = 0; i < text.length(); i++) {
            hold(text.charAt(i) < 128, "sign " + i + " of the source is below 128");
        }
        for (String line : text.split("\n")) {
            hold(!line.startsWith("import ") || line.equals("import java.util.Arrays;"), line);
            hold(!line.startsWith("package "), line);
        }
    }
}
