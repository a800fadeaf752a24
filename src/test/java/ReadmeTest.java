import java.io.IOException;
import java.lang.reflect.InvocationTargetException;
import java.lang.reflect.Method;
import java.lang.reflect.Modifier;
import java.net.URI;
import java.nio.file.Files;
import java.nio.file.Path;
import java.util.List;
import java.util.Set;
import java.util.TreeSet;
import java.util.regex.Matcher;
import java.util.regex.Pattern;
import javax.tools.JavaCompiler;
import javax.tools.JavaFileObject;
import javax.tools.SimpleJavaFileObject;
import javax.tools.ToolProvider;

/** The code of README.md, piece behind piece: it compiles, each call answers what stands behind it, and none lacks. */
public final class ReadmeTest {
    private static final Pattern ANSWERED = Pattern.compile("\\s*(x\\.(\\w+)\\(.*\\)); *// (-?\\d+)(: .*)?");

    private static int wrong = 0;

    private static void tell(String what) {
        wrong++;
        System.out.println("README.md: " + what);
    }

    /** The code that is made of README.md calls this. */
    public static void due(String call, long got, long want) {
        if (got != want) {
            tell(call + " answered " + got + ", told is " + want);
        }
    }

    public static void main(String[] args) throws IOException, ReflectiveOperationException {
        Set<String> used = new TreeSet<>();
        String program = programOf(Files.readAllLines(Path.of("README.md")), used);
        for (Method method : TippedIntoTheNextLap.class.getDeclaredMethods()) {
            if (Modifier.isPublic(method.getModifiers()) && !used.contains(method.getName())) {
                tell("nothing is told of what " + method.getName() + " answers");
            }
        }
        if (compiles(program)) {
            run();
        } else {
            tell("its code does not compile");
        }
        System.out.println(wrong == 0 ? "README.md holds" : wrong + " things of README.md are wrong");
        if (wrong != 0) {
            System.exit(1);
        }
    }

    private static String programOf(List<String> page, Set<String> used) {
        StringBuilder program = new StringBuilder("final class Readme {\n    static void run() {\n");
        boolean code = false;
        for (String line : page) {
            if (line.startsWith("```")) {
                code = line.equals("```java");
            } else if (code) {
                program.append(programLineOf(line, used)).append('\n');
            }
        }
        return program.append("    }\n}\n").toString();
    }

    private static String programLineOf(String line, Set<String> used) {
        Matcher told = ANSWERED.matcher(line);
        if (!told.matches()) {
            return line;
        }
        used.add(told.group(2));
        String name = told.group(1).replace("\"", "\\\"");
        return "ReadmeTest.due(\"" + name + "\", " + told.group(1) + ", " + told.group(3) + "L);";
    }

    private static boolean compiles(String program) {
        JavaCompiler compiler = ToolProvider.getSystemJavaCompiler();
        URI place = URI.create("string:///Readme.java");
        JavaFileObject source = new SimpleJavaFileObject(place, JavaFileObject.Kind.SOURCE) {
            @Override
            public CharSequence getCharContent(boolean ignoreEncodingErrors) {
                return program;
            }
        };
        String classes = System.getProperty("java.class.path");
        return compiler.getTask(null, null, null, List.of("-cp", classes, "-d", classes), null, List.of(source)).call();
    }

    private static void run() throws ReflectiveOperationException {
        Method run = Class.forName("Readme").getDeclaredMethod("run");
        run.setAccessible(true);
        try {
            run.invoke(null);
        } catch (InvocationTargetException e) {
            tell("its code throws " + e.getCause());
        }
    }
}
