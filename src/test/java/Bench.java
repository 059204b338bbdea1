import java.io.IOException;
import java.lang.reflect.InvocationTargetException;
import java.lang.reflect.Method;
import java.nio.file.Files;
import java.nio.file.Path;
import java.util.Arrays;
import java.util.HashMap;
import java.util.Map;
import java.util.function.IntToLongFunction;

/** What the tests of edges share: the sentence that is tested, checks, and short ways to a town. */
abstract class Bench {
    static final int BAD = -1, NOT = -2, FULL = -3, STATE = -5, VOID = -2000000000;
    static final int NOTHING = -11, OTHER = -12, NO_PLACE = -13, NO_SIZE = -14;
    static final int MIN = Integer.MIN_VALUE, MAX = Integer.MAX_VALUE;
    static final long NONE = Long.MIN_VALUE;

    private static final String DOCUMENT = document();
    private static final Map<String, Method> METHODS = new HashMap<>();
    private static String sentence = "";
    private static int sentences;
    private static int checks;
    private static int wrong;

    private static String document() {
        try {
            return plain(Files.readString(Path.of("../shared/DOC.md")));
        } catch (IOException e) {
            throw new IllegalStateException("tests run in the project's folder, with ../shared beside it", e);
        }
    }

    private static String plain(String text) {
        return text.replaceAll("\\s+", " ");
    }

    /** The sentence of the document that the checks behind it hold; it must stand there word by word. */
    static void says(String words) {
        sentence = words;
        sentences++;
        if (!DOCUMENT.contains(plain(words))) {
            wrong++;
            System.out.println("the document does not say: " + words);
        }
    }

    static void due(String what, long got, long want) {
        checks++;
        if (got != want) {
            tell(what + " answered " + got + ", due is " + want);
        }
    }

    private static void unlike(String what, long got, long refusal) {
        checks++;
        if (got == refusal) {
            tell(what + " is refused by " + got);
        }
    }

    private static void tell(String fault) {
        wrong++;
        System.out.println("\"" + sentence + "\": " + fault);
    }

    /** A number that may be least .. most: refused beyond, both one step and far, and not within. */
    static void within(String what, int least, int most, long refusal, IntToLongFunction call) {
        for (int v : new int[] {least, Math.min(least + 1, most), Math.max(most - 1, least), most}) {
            unlike(what + " " + v, call.applyAsLong(v), refusal);
        }
        for (int v : new int[] {least - 1, most + 1, MIN, MAX}) {
            due(what + " " + v, call.applyAsLong(v), refusal);
        }
    }

    /** A number that may be nothing at all. */
    static void never(String what, long refusal, IntToLongFunction call) {
        for (int v : new int[] {0, 1, -1, MIN, MAX}) {
            due(what + " " + v, call.applyAsLong(v), refusal);
        }
    }

    static void end() {
        System.out.println(sentences + " sentences, " + checks + " checks, " + wrong + " wrong");
        if (wrong != 0 || checks == 0) {
            System.exit(1);
        }
    }

    /** A club with so many houses, in cells 0, 1, .. */
    static AskedFire town(int houses) {
        AskedFire x = new AskedFire();
        for (int i = 0; i < houses; i++) {
            x.house(i);
        }
        return x;
    }

    /** A town with one card of house 0, for a day. */
    static AskedFire asked(int houses, int day) {
        AskedFire x = town(houses);
        x.card(0, day);
        return x;
    }

    static AskedFire at(int now, AskedFire x) {
        x.mend(0, 7, now);
        return x;
    }

    static AskedFire by(String law, AskedFire x) {
        due("law " + law, law(x, law), 1);
        return x;
    }

    static int law(AskedFire x, String text) {
        for (int i = 0; i < text.length(); i++) {
            x.feed(text.charAt(i));
        }
        return x.law();
    }

    static AskedFire bytes(AskedFire x, int shelf, int... v) {
        x.row(shelf, 0, v.length);
        for (int i = 0; i < v.length; i++) {
            x.put(shelf, i, v[i]);
        }
        return x;
    }

    static String times(String text, int n) {
        return text.repeat(Math.max(0, n));
    }

    /** Calls a method by its name. */
    static long answer(Object on, String name, Number... args) {
        Method method = METHODS.computeIfAbsent(on.getClass().getName() + " " + name + " " + args.length,
            key -> find(on.getClass(), name, args.length));
        Object[] given = new Object[args.length];
        for (int i = 0; i < args.length; i++) {
            boolean wide = method.getParameterTypes()[i] == long.class;
            given[i] = wide ? (Object) args[i].longValue() : (Object) args[i].intValue();
        }
        try {
            return ((Number) method.invoke(on, given)).longValue();
        } catch (IllegalAccessException | InvocationTargetException e) {
            throw new IllegalStateException(name + Arrays.toString(args), e);
        }
    }

    private static Method find(Class<?> of, String name, int params) {
        for (Method method : of.getDeclaredMethods()) {
            if (method.getName().equals(name) && method.getParameterCount() == params) {
                return method;
            }
        }
        throw new IllegalStateException("no call " + name + " of " + params);
    }
}
