import java.lang.reflect.Method;
import java.lang.reflect.Modifier;
import java.util.ArrayList;
import java.util.Comparator;
import java.util.List;

/**
 * Every call with every combination of corner numbers, in clubs that are new, rich, full or at their last day: none
 * throws, and each answers as NaiveClub does.
 */
public final class CornersTest extends Bench {
    private static final int CALLS_OF_ONE = 200;
    private static final int[] CORNERS = {MIN, -3, -2, -1, 0, 1, 2, 3, 4, 5, 6, 12, 29, 30, 60, 64, 143, MAX};
    private static final int[] FEWER = {MIN, -1, 0, 1, 2, 5, 6, 12, 29, MAX};
    private static final int[] FEWEST = {MIN, -1, 0, 1, 2, 5, 6, MAX};

    private final String town;
    private AskedFire fire;
    private NaiveClub naive;
    private int left;

    private CornersTest(String town) {
        this.town = town;
    }

    public static void main(String[] args) {
        says("Answers, of several the one named first");
        for (String town : List.of(Towns.NEW, Towns.RICH, Towns.LAST, Towns.FULLEST)) {
            CornersTest corners = new CornersTest(town);
            for (Method method : face()) {
                corners.left = 0;
                corners.all(method.getName(), new int[method.getParameterCount()], 0);
            }
        }
        end();
    }

    /** Methods come in no told order, so they are put in one. */
    private static List<Method> face() {
        List<Method> list = new ArrayList<>();
        for (Method method : AskedFire.class.getDeclaredMethods()) {
            if (Modifier.isPublic(method.getModifiers())) {
                list.add(method);
            }
        }
        list.sort(Comparator.comparing(Method::getName));
        return list;
    }

    private void all(String name, int[] args, int at) {
        if (at < args.length) {
            for (int v : args.length <= 2 ? CORNERS : args.length <= 3 ? FEWER : FEWEST) {
                args[at] = v;
                all(name, args, at + 1);
            }
            return;
        }
        if (left == 0) {
            begin();
        }
        left--;
        Number[] given = new Number[args.length];
        StringBuilder text = new StringBuilder(name);
        for (int i = 0; i < args.length; i++) {
            given[i] = args[i];
            text.append(' ').append(args[i]);
        }
        due(text.toString(), answer(fire, name, given), answer(naive, name, given));
    }

    private void begin() {
        fire = Towns.led(town);
        naive = new NaiveClub();
        for (String call : Towns.split(town)) {
            Towns.call(naive, call);
        }
        left = CALLS_OF_ONE;
    }
}
