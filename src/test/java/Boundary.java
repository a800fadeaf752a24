import java.lang.reflect.InvocationTargetException;
import java.lang.reflect.Method;
import java.util.Arrays;
import java.util.Comparator;
import java.util.function.Consumer;
import java.util.function.ToLongFunction;

/**
 * What the boundary tests share. A test is a method without parameters named by "p", two digits of its promise and the
 * case; runAll runs all such of a class.
 */
abstract class Boundary {
    static final int REFUSED_1 = 1000000001;
    static final int REFUSED_3 = 1000000003;
    static final int FAR_BELOW = -2147483648;
    static final int FAR_ABOVE = 2147483647;
    static final int BYTES = 0;
    static final int SHORTS = 1;
    static final int INTS = 2;
    /** SLEEPER 3, SITTER 5, TALL 9, BABY 9; at 22: CAN 8 1 10 0, WORTH 3 1 5 0; TIPS 8 0 2 0, 8 1 2 0, 8 1 3 0. */
    static final String FOUR = "p13;p05;p29;p69;";
    static final String EIGHT = "p00;p00;p00;p00;p00;p00;p00;p00;";
    static final Making NOBODY = TippedIntoTheNextLap::new;

    private static String running = "";
    private static int wrong = 0;

    /** Makes the same object anew, as often as it is wanted. */
    interface Making {
        TippedIntoTheNextLap made();

        default Making and(Consumer<TippedIntoTheNextLap> more) {
            return () -> {
                TippedIntoTheNextLap x = made();
                more.accept(x);
                return x;
            };
        }
    }

    interface CallWith {
        long with(TippedIntoTheNextLap x, int v);
    }

    static void runAll(Class<?> tests) throws IllegalAccessException {
        Method[] all = tests.getDeclaredMethods();
        Arrays.sort(all, Comparator.comparing(Method::getName));
        int run = 0;
        for (Method test : all) {
            if (test.getName().matches("p\\d\\d[A-Z].*")) {
                runOne(test);
                run++;
            }
        }
        System.out.println(tests.getName() + ": " + run + " tests, " + wrong + " things wrong");
        if (wrong != 0 || run == 0) {
            System.exit(1);
        }
    }

    private static void runOne(Method test) throws IllegalAccessException {
        running = test.getName();
        try {
            test.setAccessible(true);
            test.invoke(null);
        } catch (InvocationTargetException e) {
            tell("throws " + e.getCause());
        }
    }

    static void tell(String what) {
        wrong++;
        if (wrong < 60) {
            System.out.println(running + ": " + what);
        }
    }

    static void due(String call, long got, long want) {
        if (got != want) {
            tell(call + " answered " + got + ", due is " + want);
        }
    }

    /** For a question and for a refusal: the answer is that, twice, and nothing is changed by it. */
    static void asks(Making making, String call, ToLongFunction<TippedIntoTheNextLap> asked, long want) {
        TippedIntoTheNextLap x = making.made();
        due(call, asked.applyAsLong(x), want);
        due(call + ", again", asked.applyAsLong(x), want);
        String is = state(x);
        String was = state(making.made());
        if (!is.equals(was)) {
            tell(call + " made of " + was + " this: " + is);
        }
    }

    /** For a call that changes something: the answer is that; the object, to look on. */
    static TippedIntoTheNextLap does(Making making, String call, ToLongFunction<TippedIntoTheNextLap> done, long want) {
        TippedIntoTheNextLap x = making.made();
        due(call, done.applyAsLong(x), want);
        return x;
    }

    /** Of a number that is to be from least to most: one less, one more, and far off are refused. */
    static void refusesOutside(Making making, String call, int least, int most, CallWith asked, long refusal) {
        for (int v : new int[] {least - 1, most + 1, FAR_BELOW, FAR_ABOVE}) {
            asks(making, call + " with " + v, x -> asked.with(x, v), refusal);
        }
    }

    /** Of a shelf's number, in place of which all that is told behind it is as it must be. */
    static void refusesOtherShelves(Making making, String call, CallWith asked) {
        refusesOutside(making, call + ", no such shelf", 0, 7, asked, -1);
    }

    static void asksBoth(Making making, String call, CallWith asked, int least, long atLeast, int most, long atMost) {
        asks(making, call + " with " + least, x -> asked.with(x, least), atLeast);
        asks(making, call + " with " + most, x -> asked.with(x, most), atMost);
    }

    /** Statements as in a text, each made by its own call of the face; shelf 7 is empty behind it. */
    static Making by(String statements) {
        return () -> {
            TippedIntoTheNextLap x = new TippedIntoTheNextLap();
            for (String statement : statements.isEmpty() ? new String[0] : statements.split(";")) {
                if (!made(x, statement)) {
                    throw new IllegalStateException("a test's own coach is refused: " + statement);
                }
            }
            x.keep(7, 0, 0, 0);
            return x;
        };
    }

    private static boolean made(TippedIntoTheNextLap x, String statement) {
        int first = statement.charAt(1) - '0';
        int rest = statement.length() > 2 ? Integer.parseInt(statement.substring(2)) : 0;
        switch (statement.charAt(0)) {
            case 'p':
                x.keep(7, 1, first, rest);
                return x.comes(7) >= 0;
            case 't': return x.tips(first, rest) >= 0;
            case 'b': return x.blocks(first) >= 0;
            case 'h': return x.hour(10 * first + rest) >= 0;
            case 'r': return x.rounds(10 * first + rest) >= 0;
            default: return x.change(first, rest) >= 0;
        }
    }

    /** The coach with so many rounds behind it. */
    static Making late(String statements, int trip) {
        return by(statements).and(x -> {
            for (int left = trip; left > 0; left -= 60) {
                x.rounds(Math.min(left, 60));
            }
        });
    }

    static Making withRow(Making making, int d, int sort, int... numbers) {
        return making.and(x -> {
            x.row(d, sort, numbers.length);
            for (int i = 0; i < numbers.length; i++) {
                x.put(d, i, numbers[i]);
            }
        });
    }

    static Making withPerson(Making making, int d, int kind, int figure) {
        return making.and(x -> x.keep(d, 1, kind, figure));
    }

    /** The text on shelf 7, as bytes. */
    static Making withText(Making making, String text) {
        return withRow(making, 7, BYTES, text.chars().toArray());
    }

    static void refusesText(Making making, String text, int want) {
        asks(withText(making, text), "coach of \"" + text + "\"", x -> x.coach(7), want);
    }

    static TippedIntoTheNextLap takesText(Making making, String text, int want) {
        return does(withText(making, text), "coach of \"" + text + "\"", x -> x.coach(7), want);
    }

    static void dueTips(String when, TippedIntoTheNextLap x, int... tips) {
        due(when + ": people", x.count(0), tips.length);
        for (int i = 0; i < tips.length; i++) {
            due(when + ": tip of row " + i, x.seat(i, 2), tips[i]);
        }
    }

    /** What element throws: 1 IllegalArgumentException, 2 IllegalStateException; 0 nothing. */
    static int thrown(TippedIntoTheNextLap x, int d, int i) {
        try {
            x.element(d, i);
            return 0;
        } catch (IllegalArgumentException e) {
            return 1;
        } catch (IllegalStateException e) {
            return 2;
        }
    }

    /** All that can be told of an object, the image too; it is of no use any more behind that. */
    private static String state(TippedIntoTheNextLap x) {
        StringBuilder all = new StringBuilder();
        coachOf(x, all);
        for (int d = 0; d < 8; d++) {
            all.append("| ").append(x.cost(d)).append(' ');
            if (x.cost(d) > 0) {
                all.append(x.toss(d)).append(' ');
            }
            for (int i = 0; thrown(x, d, i) == 0; i++) {
                all.append(x.element(d, i)).append(' ');
            }
            all.append(sortOf(x, d)).append(' ');
        }
        all.append("| image ").append(x.restore()).append(' ');
        coachOf(x, all);
        return all.toString();
    }

    private static void coachOf(TippedIntoTheNextLap x, StringBuilder all) {
        for (int i = 0; i < 7; i++) {
            all.append(x.count(i)).append(' ');
        }
        for (int i = 0; i < x.count(0); i++) {
            all.append("/ ");
            for (int what = 0; what < 4; what++) {
                all.append(x.seat(i, what)).append(' ');
            }
        }
    }

    /** By what becomes of a number with many bits; only of a row with an element. */
    private static String sortOf(TippedIntoTheNextLap x, int d) {
        if (x.put(d, 0, 0x12345678) != 0) {
            return "";
        }
        return Long.toHexString(x.element(d, 0));
    }
}
