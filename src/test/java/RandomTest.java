import java.util.ArrayList;
import java.util.List;
import java.util.Random;

/** Runs of calls by fixed seeds on the class and on NaiveClub: both must answer alike, call by call. */
public final class RandomTest {
    private static final int RUNS = 600, CALLS = 500;
    private static final String LETTERS = "cfdrhn0123456789()!-+*/%<=>&|?;";

    private final Random dice;
    private final AskedFire fire = new AskedFire();
    private final NaiveClub naive = new NaiveClub();
    private final List<String> told = new ArrayList<>();
    private boolean wrong;

    private RandomTest(long seed) {
        dice = new Random(seed);
    }

    public static void main(String[] args) {
        int runs = args.length > 0 ? Integer.parseInt(args[0]) : RUNS;
        long from = args.length > 1 ? Long.parseLong(args[1]) : 1;
        int failed = 0;
        for (long seed = from; seed < from + runs && failed < 5; seed++) {
            RandomTest run = new RandomTest(seed);
            run.play();
            if (run.wrong) {
                failed++;
                System.out.println("seed " + seed + ":");
                run.told.forEach(line -> System.out.println("  " + line));
            }
        }
        System.out.println(failed == 0 ? "all runs agree" : failed + " runs differ");
        if (failed != 0) {
            System.exit(1);
        }
    }

    private void play() {
        int houses = dice.nextInt(7);
        for (int i = 0; i < houses; i++) {
            call("house", pick(0, 143));
        }
        if (dice.nextInt(4) > 0) {
            settle();
        }
        while (told.size() < CALLS && !wrong) {
            step();
        }
    }

    /** Many runs begin with a town in which much may burn and many ask. */
    private void settle() {
        for (int i = 0; i < 12; i++) {
            call("mend", house(), 1 + dice.nextInt(4), pick(2, 9));
            call("mend", dice.nextInt(9), 5, pick(3, 9));
        }
        int cards = dice.nextInt(13);
        for (int i = 0; i < cards; i++) {
            call("card", house(), dice.nextInt(3) == 0 ? -1 : dice.nextInt(8));
        }
    }

    /** Mostly what may be, now and then a little beyond it, seldom anything. */
    private int pick(int least, int most) {
        int how = dice.nextInt(60);
        if (how == 0) {
            return dice.nextInt();
        }
        if (how <= 2) {
            return dice.nextBoolean() ? least - 1 : most + 1;
        }
        return most < least ? least : least + dice.nextInt(most - least + 1);
    }

    private int house() {
        return pick(0, Math.max(0, naive.houses.size() - 1));
    }

    private int card() {
        return pick(0, Math.max(0, naive.cards.size() - 1));
    }

    private int day() {
        return pick(dice.nextInt(8) == 0 ? 0 : naive.now, dice.nextInt(3) == 0 ? 29 : Math.min(29, naive.now + 6));
    }

    private int set() {
        return pick(0, (1 << naive.houses.size()) - 1);
    }

    private int shelf() {
        return pick(0, 5);
    }

    private void step() {
        switch (dice.nextInt(45)) {
            case 0 -> call("house", pick(0, 143));
            case 1, 2 -> call("card", house(), dice.nextInt(3) == 0 ? -1 : day());
            case 3 -> rowOfCards();
            case 4, 5, 6 -> mend();
            case 7 -> call("of", dice.nextBoolean() ? house() : card(), pick(0, 10));
            case 8 -> tellLaw();
            case 9 -> call("feed", dice.nextInt(9) > 0 ? 256 : pick(0, 255));
            case 10 -> call("likes", card(), day());
            case 11 -> call("accepts", day(), pick(0, 1));
            case 12 -> call("visits", house(), day());
            case 13 -> call("first", pick(0, 1));
            case 14 -> call("odds", house(), pick(0, 29));
            case 15 -> call("burns", house(), pick(0, 8), pick(0, 1));
            case 16 -> call("mean", pick(0, 4), pick(0, 1));
            case 17 -> plans();
            case 18 -> call("ask", house());
            case 19 -> call("sweeten", house(), day(), pick(0, 1));
            case 20 -> call("evening", set(), pick(-2, 5));
            case 21, 22 -> beliefs();
            case 23 -> call("lists", pick(0, 2));
            case 24, 25, 26 -> readBack();
            case 27 -> call("drawn", dice.nextInt(), pick(1, 4), pick(-1, naive.houses.size() - 1));
            case 28, 29 -> call("pass", dice.nextInt(3) > 0 ? 0 : set());
            case 30 -> call("build", house());
            case 31 -> call("led", dice.nextBoolean() ? pick(0, 4) : 10 + house());
            case 32 -> call(dice.nextInt(2) == 0 ? "image" : "back");
            case 33 -> call("undo");
            case 34 -> call("redo");
            case 35 -> call("body", pick(0, 7));
            case 36, 37 -> acts();
            case 38 -> call("keep", shelf(), pick(-1, naive.bodies.size() - 1));
            case 39 -> call("row", shelf(), pick(0, 4), pick(0, dice.nextInt(4) == 0 ? 60 : 6));
            case 40 -> call("put", shelf(), pick(0, 5), dice.nextBoolean() ? dice.nextLong() : pick(-2, 7));
            case 41 -> call("element", shelf(), pick(0, 5));
            case 42 -> call("shift", shelf(), pick(0, 3), shelf(), pick(0, 3), pick(0, 3));
            case 43 -> call("taken", shelf(), pick(0, 7));
            default -> call("count", pick(0, 5));
        }
    }

    private void mend() {
        int what = pick(0, 7);
        int[] most = {143, 12, 9, 9, 9, 9, 29, 29};
        // NOW goes back more often than on, so that days are left.
        int v = what == 7 && dice.nextInt(3) > 0 ? pick(0, 6) : what >= 0 && what < 8 ? pick(what == 6 ? -1 : 0, most[what]) : 0;
        int number = what < 5 ? house() : what == 5 ? day() : what == 6 ? card() : dice.nextInt(9) == 0 ? 1 : 0;
        call("mend", number, what, v);
        if (what < 8) {
            call("of", number, what);
        }
    }

    private void rowOfCards() {
        int shelf = dice.nextInt(6);
        if (dice.nextInt(3) > 0) {
            call("row", shelf, 0, pick(0, 7));
            for (int i = 0; i < 6; i++) {
                call("put", shelf, i, i % 2 == 0 ? house() : pick(-1, 29));
            }
        }
        call("cards", shelf, pick(0, 3), pick(1, 4));
    }

    private void tellLaw() {
        String text = dice.nextInt(6) == 0 ? noise() : lines();
        if (dice.nextInt(5) == 0 && !text.isEmpty()) {
            int at = dice.nextInt(text.length());
            text = text.substring(0, at) + LETTERS.charAt(dice.nextInt(LETTERS.length()))
                + text.substring(at + dice.nextInt(2));
        }
        for (int i = 0; i < text.length(); i++) {
            call("feed", (int) text.charAt(i));
        }
        call("count", 2);
        call("law");
    }

    private String noise() {
        StringBuilder text = new StringBuilder();
        int n = dice.nextInt(12);
        for (int i = 0; i < n; i++) {
            text.append(LETTERS.charAt(dice.nextInt(LETTERS.length())));
        }
        return text.toString();
    }

    private String lines() {
        StringBuilder text = new StringBuilder();
        int n = 1 + dice.nextInt(3);
        for (int i = 0; i < n; i++) {
            text.append(i > 0 ? ";" : "").append(expression(2)).append(dice.nextInt(3) == 0 ? "?" + expression(2) : "");
        }
        return text.toString();
    }

    private String expression(int depth) {
        String[] signs = {"|", "&", "<", "=", ">", "+", "-", "*", "/", "%", "+", "-", "*"};
        StringBuilder text = new StringBuilder(operand(depth));
        int n = dice.nextInt(4);
        for (int i = 0; i < n; i++) {
            text.append(signs[dice.nextInt(signs.length)]).append(operand(depth));
        }
        return text.toString();
    }

    private String operand(int depth) {
        int how = dice.nextInt(12);
        if (how < 6) {
            return "" + "cfdrhn".charAt(how);
        }
        if (how < 8 || depth == 0) {
            return "" + dice.nextInt(dice.nextInt(4) == 0 ? 10000 : 12);
        }
        return how == 8 ? "!" + operand(depth - 1) : how == 9 ? "-" + operand(depth - 1) : "(" + expression(depth - 1) + ")";
    }

    private void plans() {
        int t = pick(0, dice.nextInt(4) == 0 ? 4 : 3);
        call("plan", t, 0);
        call("plan", t, 1);
        call("planned", t, pick(0, t - 1));
    }

    private void beliefs() {
        int shelf = dice.nextInt(6);
        if (dice.nextInt(4) > 0) {
            int n = dice.nextInt(dice.nextInt(4) == 0 ? 15 : 5);
            call("row", shelf, 0, n);
            for (int i = 0; i < n; i++) {
                call("put", shelf, i, dice.nextInt(40) == 0 ? pick(-1, 4) : dice.nextInt(4) == 0 ? 3 : 2 * dice.nextInt(2));
            }
        }
        int house = house();
        int x = pick(0, 12);
        call("belief", shelf, house, x, 0);
        call("belief", shelf, house, x, 1);
    }

    /** A ROW as the naive club tells who is VISITED, at times with one told otherwise. */
    private void readBack() {
        int shelf = dice.nextInt(6);
        if (dice.nextInt(5) > 0) {
            int n = dice.nextInt(6);
            call("row", shelf, 0, n);
            for (int i = 0; i < n && naive.now + i <= 29; i++) {
                int visited = naive.accepts(naive.now + i, 1);
                call("put", shelf, i, dice.nextInt(12) == 0 ? pick(0, 6) : visited < 0 ? 6 : visited);
            }
        }
        call("judge", shelf);
        call("read", shelf, house(), pick(0, 3));
    }

    private void acts() {
        call("act", pick(0, Math.max(0, naive.bodies.size() - 1)), pick(0, 3), dice.nextInt(3) == 0 ? dice.nextInt() : pick(-9, 9));
        call("count", 5);
        call("trace", pick(0, 9));
    }

    private void call(String name, Number... args) {
        if (wrong) {
            return;
        }
        long got = Bench.answer(fire, name, args);
        long due = Bench.answer(naive, name, args);
        told.add(name + java.util.Arrays.toString(args) + " -> " + got + (got == due ? "" : ", due " + due));
        wrong = got != due;
    }
}
