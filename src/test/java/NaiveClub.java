import java.math.BigInteger;
import java.util.ArrayDeque;
import java.util.ArrayList;
import java.util.Arrays;
import java.util.Deque;
import java.util.HashMap;
import java.util.HashSet;
import java.util.List;
import java.util.Map;
import java.util.Set;

/** The document once more, in the plainest words, for RandomTest to hold the class against. */
final class NaiveClub {
    static final int BAD = -1, NOT = -2, FULL = -3, STATE = -5, VOID = -2000000000;

    static final class House {
        int[] numbers;
        boolean stands = true;
        int been;

        House(int cell) {
            numbers = new int[] {cell, 3, 5, 0, 3};
        }
    }

    static final class Card {
        int house;
        int day;
        boolean used;
    }

    record Change(int number, int what, int before, int after) {
    }

    record Ratio(BigInteger up, BigInteger down) {
        Ratio(long up, long down) {
            this(BigInteger.valueOf(up), BigInteger.valueOf(down));
        }

        Ratio plus(Ratio o) {
            return new Ratio(up.multiply(o.down).add(o.up.multiply(down)), down.multiply(o.down));
        }

        Ratio minus(Ratio o) {
            return plus(new Ratio(o.up.negate(), o.down));
        }

        Ratio times(Ratio o) {
            return new Ratio(up.multiply(o.up), down.multiply(o.down));
        }

        Ratio by(Ratio o) {
            return new Ratio(up.multiply(o.down), down.multiply(o.up));
        }

        boolean below(Ratio o) {
            return up.multiply(o.down).compareTo(o.up.multiply(down)) < 0;
        }

        long part(int part) {
            BigInteger g = up.gcd(down);
            return (part == 0 ? up.divide(g) : down.divide(g)).longValueExact();
        }
    }

    final List<House> houses = new ArrayList<>();
    final List<Card> cards = new ArrayList<>();
    final int[] dry = new int[30];
    int now;
    String tape = "";
    String text;
    final int[] led = new int[5];
    Deque<Change> done = new ArrayDeque<>();
    Deque<Change> undone = new ArrayDeque<>();
    Image image;
    final List<NaiveBodies.Member> bodies = new ArrayList<>();
    List<Integer> ran = new ArrayList<>();
    // null, a Member, or one of Java's own arrays
    final Object[] shelves = new Object[6];

    record Image(int now, List<Boolean> stands, List<Integer> been, List<Boolean> used, int[] led) {
    }

    NaiveClub() {
        Arrays.fill(dry, 5);
    }

    boolean isHouse(int h) {
        return h >= 0 && h < houses.size();
    }

    boolean isCard(int c) {
        return c >= 0 && c < cards.size();
    }

    static boolean in(int v, int least, int most) {
        return v >= least && v <= most;
    }

    int house(int cell) {
        if (!in(cell, 0, 143)) {
            return BAD;
        }
        if (houses.size() == 6) {
            return FULL;
        }
        houses.add(new House(cell));
        return houses.size() - 1;
    }

    int card(int house, int day) {
        if (!isHouse(house) || !in(day, -1, 29)) {
            return BAD;
        }
        if (cards.size() == 12) {
            return FULL;
        }
        Card card = new Card();
        card.house = house;
        card.day = day;
        cards.add(card);
        return cards.size() - 1;
    }

    int cards(int shelf, int i, int n) {
        if (!in(shelf, 0, 5) || !in(n, 1, 12)) {
            return BAD;
        }
        if (shelves[shelf] == null) {
            return 0;
        }
        if (!(shelves[shelf] instanceof byte[] row)) {
            return -12;
        }
        int came = 0;
        for (long at = i; at >= 0 && at + 1 < row.length && came < n; at += 2) {
            if (card(row[(int) at], row[(int) at + 1]) < 0) {
                break;
            }
            came++;
        }
        return came;
    }

    boolean names(int number, int what) {
        return switch (what) {
            case 0, 1, 2, 3, 4 -> isHouse(number);
            case 5 -> in(number, 0, 29);
            case 6 -> isCard(number);
            case 7 -> number == 0;
            default -> false;
        };
    }

    int get(int number, int what) {
        return what < 5 ? houses.get(number).numbers[what]
            : what == 5 ? dry[number] : what == 6 ? cards.get(number).day : now;
    }

    void set(int number, int what, int v) {
        if (what < 5) {
            houses.get(number).numbers[what] = v;
        } else if (what == 5) {
            dry[number] = v;
        } else if (what == 6) {
            cards.get(number).day = v;
        } else {
            now = v;
        }
    }

    int mend(int number, int what, int v) {
        if (!names(number, what)) {
            return VOID;
        }
        boolean fits = switch (what) {
            case 0 -> in(v, 0, 143);
            case 1 -> in(v, 0, 12);
            case 2, 3, 5 -> in(v, 0, 9);
            case 4 -> in(v, 1, 9);
            case 6 -> in(v, -1, 29);
            default -> in(v, 0, 29);
        };
        if (!fits) {
            return VOID;
        }
        int before = get(number, what);
        if (before != v) {
            done.addLast(new Change(number, what, before, v));
            if (done.size() > 40) {
                done.removeFirst();
            }
            undone.clear();
            set(number, what, v);
        }
        return before;
    }

    int of(int number, int what) {
        if (what == 8) {
            return isHouse(number) ? houses.get(number).stands ? 1 : 0 : VOID;
        }
        if (what == 9 || what == 10) {
            return !isCard(number) ? VOID : what == 9 ? cards.get(number).house : cards.get(number).used ? 1 : 0;
        }
        return names(number, what) ? get(number, what) : VOID;
    }

    int feed(int letter) {
        if (!in(letter, 0, 255)) {
            return BAD;
        }
        if (tape.length() == 120) {
            return FULL;
        }
        tape += (char) letter;
        return tape.length();
    }

    int law() {
        int fault = NaiveLaw.faultOf(tape);
        if (fault < 0) {
            text = tape;
        }
        tape = "";
        return fault < 0 ? 1 : -100 - fault;
    }

    /** A course of days in thought: who is VISITED when, by copies of what deeds change. */
    final class Course {
        final boolean[] stands = new boolean[houses.size()];
        final int[] been = new int[houses.size()];
        final boolean[] used = new boolean[13];

        Course() {
            for (int h = 0; h < houses.size(); h++) {
                stands[h] = houses.get(h).stands;
                been[h] = houses.get(h).been;
            }
            for (int c = 0; c < cards.size(); c++) {
                used[c] = cards.get(c).used;
            }
        }

        int liking(int h, int day) {
            int[] of = houses.get(h).numbers;
            int v = text == null ? of[2] - of[3] - been[h]
                : new NaiveLaw(text, of[2], of[3], dry[day], of[1], h, been[h]).lines();
            return v < -99 ? -99 : v > 99 ? 99 : v;
        }

        int accepted(int day) {
            int best = NOT;
            for (int c = 0; c < cards.size(); c++) {
                Card card = cards.get(c);
                boolean lies = card.day == day || card.day == -1 && !used[c];
                if (lies && stands[card.house] && liking(card.house, day) > 0
                    && (best < 0 || liking(card.house, day) > liking(cards.get(best).house, day))) {
                    best = c;
                }
            }
            return best;
        }

        int visit(int day) {
            int c = accepted(day);
            if (c < 0) {
                return NOT;
            }
            Card card = cards.get(c);
            used[c] |= card.day == -1;
            been[card.house]++;
            return card.house;
        }

        Course until(int day) {
            for (int d = now; d < day; d++) {
                visit(d);
            }
            return this;
        }
    }

    int likes(int card, int day) {
        if (!isCard(card) || !in(day, now, 29)) {
            return VOID;
        }
        return new Course().until(day).liking(cards.get(card).house, day);
    }

    int accepts(int day, int what) {
        if (!in(day, now, 29) || !in(what, 0, 1)) {
            return BAD;
        }
        int c = new Course().until(day).accepted(day);
        return c < 0 ? NOT : what == 0 ? c : cards.get(c).house;
    }

    /** By days from NOW on who is VISITED. */
    List<Integer> visited() {
        Course course = new Course();
        List<Integer> list = new ArrayList<>();
        for (int d = now; d <= 29; d++) {
            list.add(course.visit(d));
        }
        return list;
    }

    int visits(int house, int day) {
        if (!isHouse(house) || !in(day, now, 29)) {
            return BAD;
        }
        return (int) visited().subList(0, day - now + 1).stream().filter(h -> h == house).count();
    }

    int first(int what) {
        if (what == 0) {
            int i = visited().indexOf(NOT);
            return i < 0 ? NOT : now + i;
        }
        if (what != 1) {
            return BAD;
        }
        int best = now;
        for (int d = now; d <= 29; d++) {
            best = dry[d] > dry[best] ? d : best;
        }
        return best;
    }

    int fire(int h, int d) {
        return houses.get(h).numbers[1] * dry[d] / 9;
    }

    int odds(int house, int day) {
        return isHouse(house) && in(day, 0, 29) ? fire(house, day) : BAD;
    }

    Ratio burnt(int house, int t, List<Integer> visited) {
        Ratio spared = new Ratio(1, 1);
        for (int i = 0; i < t && now + i <= 29; i++) {
            if (visited.get(i) != house) {
                spared = spared.times(new Ratio(12 - fire(house, now + i), 12));
            }
        }
        return new Ratio(1, 1).minus(spared);
    }

    Ratio burntAll(int t, List<Integer> visited) {
        Ratio sum = new Ratio(0, 1);
        for (int h = 0; h < houses.size(); h++) {
            if (houses.get(h).stands) {
                sum = sum.plus(burnt(h, t, visited));
            }
        }
        return sum;
    }

    long burns(int house, int t, int part) {
        if (!isHouse(house) || !in(t, 0, 8) || !in(part, 0, 1)) {
            return Long.MIN_VALUE;
        }
        return houses.get(house).stands ? burnt(house, t, visited()).part(part) : 1;
    }

    long mean(int t, int part) {
        if (!in(t, 0, 4) || !in(part, 0, 1)) {
            return Long.MIN_VALUE;
        }
        return burntAll(t, visited()).part(part);
    }

    private Ratio planLeast;
    private List<Integer> planCards;

    private void planAll(int t, List<Integer> sofar) {
        int day = now + sofar.size();
        if (sofar.size() == t || day > 29) {
            List<Integer> who = sofar.stream().map(c -> c < 0 ? NOT : cards.get(c).house).toList();
            Ratio sum = burntAll(t, who);
            if (planLeast == null || sum.below(planLeast)) {
                planLeast = sum;
                planCards = List.copyOf(sofar);
            }
            return;
        }
        for (int c = NOT; c < cards.size(); c = c == NOT ? 0 : c + 1) {
            if (c >= 0) {
                Card card = cards.get(c);
                boolean open = !card.used && houses.get(card.house).stands
                    && (card.day == day || card.day == -1 && !sofar.contains(c));
                if (!open) {
                    continue;
                }
            }
            List<Integer> more = new ArrayList<>(sofar);
            more.add(c);
            planAll(t, more);
        }
    }

    long plan(int t, int part) {
        if (!in(t, 0, 4) || !in(part, 0, 1)) {
            return Long.MIN_VALUE;
        }
        planLeast = null;
        planAll(t, List.of());
        return planLeast.part(part);
    }

    int planned(int t, int k) {
        if (!in(t, 0, 4) || !in(k, 0, t - 1)) {
            return BAD;
        }
        plan(t, 0);
        return k < planCards.size() ? planCards.get(k) : NOT;
    }

    int ask(int house) {
        if (!isHouse(house)) {
            return BAD;
        }
        if (!houses.get(house).stands || cards.size() == 12) {
            return NOT;
        }
        int best = NOT;
        for (int d = now; d <= 29; d++) {
            card(house, d);
            if (visited().get(d - now) == house && (best < 0 || fire(house, d) > fire(house, best))) {
                best = d;
            }
            cards.remove(cards.size() - 1);
        }
        return best;
    }

    int sweeten(int house, int day, int what) {
        if (!isHouse(house) || !in(day, now, 29) || !in(what, 0, 1)) {
            return BAD;
        }
        int[] numbers = houses.get(house).numbers;
        int[] kept = numbers.clone();
        int found = NOT;
        for (int v = 0; v <= 9; v++) {
            numbers[what == 0 ? 2 : 3] = v;
            if (visited().get(day - now) == house && (found < 0 || what == 1)) {
                found = v;
            }
        }
        houses.get(house).numbers = kept;
        return found;
    }

    int evening(int set, int k) {
        if (set < 0 || set >= 1 << houses.size() || k < -2) {
            return BAD;
        }
        List<Integer> all = new ArrayList<>();
        for (int h = 0; h < 6; h++) {
            if ((set >> h & 1) == 1) {
                all.add(h);
            }
        }
        List<List<Integer>> ways = new ArrayList<>();
        orders(all, new ArrayList<>(), ways);
        int[] best = null;
        List<Integer> bestWay = null;
        for (List<Integer> way : ways) {
            int[] lostAndSum = drive(way);
            if (best == null || lostAndSum[0] < best[0]) {
                best = lostAndSum;
                bestWay = way;
            }
        }
        return k == -1 ? best[0] : k == -2 ? best[1] : k < bestWay.size() ? bestWay.get(k) : NOT;
    }

    private void orders(List<Integer> left, List<Integer> way, List<List<Integer>> ways) {
        if (left.isEmpty()) {
            ways.add(List.copyOf(way));
        }
        for (Integer h : left) {
            List<Integer> rest = new ArrayList<>(left);
            rest.remove(h);
            way.add(h);
            orders(rest, way, ways);
            way.remove(way.size() - 1);
        }
    }

    private int[] drive(List<Integer> way) {
        int x = 0;
        int y = 0;
        int hour = 0;
        int lost = 0;
        int sum = 0;
        for (int h : way) {
            int[] of = houses.get(h).numbers;
            int nx = of[0] % 12;
            int ny = of[0] / 12;
            hour += (int) Math.ceil((Math.abs(nx - x) + Math.abs(ny - y)) / 4.0);
            lost += hour > of[4] ? 1 : 0;
            sum += hour;
            hour++;
            x = nx;
            y = ny;
        }
        return new int[] {lost, sum};
    }

    long belief(int shelf, int house, int x, int part) {
        if (!in(shelf, 0, 5) || !isHouse(house) || !in(x, 0, 12) || !in(part, 0, 1)
            || !(shelves[shelf] instanceof byte[] row)) {
            return Long.MIN_VALUE;
        }
        Ratio own = new Ratio(1, 13);
        Ratio any = new Ratio(12, 13);
        for (int i = 0; i < row.length && i < 12 && now + i <= 29 && in(row[i], 0, 3); i++) {
            boolean visited = row[i] / 2 == 1;
            boolean burned = row[i] % 2 == 1;
            Ratio p = visited ? new Ratio(x, 12) : new Ratio(0, 1);
            Ratio q = new Ratio(fire(house, now + i), 12);
            Ratio one = new Ratio(1, 1);
            own = own.times(burned ? p : one.minus(p));
            any = any.times(burned ? q : one.minus(q));
        }
        Ratio both = own.plus(any);
        if (both.up().signum() == 0) {
            return part == 0 ? -2 : 1;
        }
        return own.by(both).part(part);
    }

    int lists(int what) {
        return what == 0 ? clash() : what == 1 ? without() : what == 2 ? match(0, new HashSet<>()) : BAD;
    }

    private int clash() {
        Map<Integer, Set<Integer>> owners = new HashMap<>();
        for (Card card : cards) {
            if (card.day >= 0 && houses.get(card.house).stands) {
                owners.computeIfAbsent(card.day, d -> new HashSet<>()).add(card.house);
            }
        }
        return owners.entrySet().stream().filter(e -> e.getValue().size() > 1).mapToInt(e -> 1 << e.getKey()).sum();
    }

    private boolean open(Card card) {
        return card.day == -1 ? !card.used : card.day >= now;
    }

    private int without() {
        int bits = 0;
        for (int h = 0; h < houses.size(); h++) {
            int house = h;
            if (houses.get(h).stands && cards.stream().noneMatch(c -> c.house == house && open(c))) {
                bits += 1 << h;
            }
        }
        return bits;
    }

    /** HOUSES from h on, given the days that are taken. */
    private int match(int h, Set<Integer> taken) {
        if (h == houses.size()) {
            return 0;
        }
        int best = match(h + 1, taken);
        if (!houses.get(h).stands) {
            return best;
        }
        Set<Integer> days = new HashSet<>();
        boolean any = false;
        for (Card card : cards) {
            if (card.house == h && open(card)) {
                any |= card.day == -1;
                days.add(card.day);
            }
        }
        days.remove(-1);
        // Of days nobody has a card for, six are as good as all.
        int spare = 0;
        for (int d = now; any && d <= 29 && spare < 6; d++) {
            int day = d;
            spare += cards.stream().noneMatch(c -> c.day == day) ? 1 : 0;
            days.add(d);
        }
        for (int d : days) {
            if (best < houses.size() - h && taken.add(d)) {
                best = Math.max(best, 1 + match(h + 1, taken));
                taken.remove(d);
            }
        }
        return best;
    }

    private int rowOfBytes(int shelf) {
        return shelves[shelf] == null ? -11 : shelves[shelf] instanceof byte[] ? 0 : -12;
    }

    private int unlike(byte[] row) {
        List<Integer> visited = visited();
        for (int i = 0; i < row.length; i++) {
            if (i >= visited.size() || row[i] != (visited.get(i) < 0 ? 6 : visited.get(i))) {
                return i;
            }
        }
        return NOT;
    }

    int judge(int shelf) {
        if (!in(shelf, 0, 5)) {
            return BAD;
        }
        return rowOfBytes(shelf) < 0 ? rowOfBytes(shelf) : unlike((byte[]) shelves[shelf]);
    }

    int read(int shelf, int house, int what) {
        if (!in(shelf, 0, 5) || !isHouse(house) || !in(what, 0, 3)) {
            return BAD;
        }
        if (rowOfBytes(shelf) < 0) {
            return rowOfBytes(shelf);
        }
        int[] kept = houses.get(house).numbers.clone();
        List<Integer> fits = new ArrayList<>();
        for (int v = 0; v <= 9; v++) {
            houses.get(house).numbers[what < 2 ? 2 : 3] = v;
            if (unlike((byte[]) shelves[shelf]) == NOT) {
                fits.add(v);
            }
        }
        houses.get(house).numbers = kept;
        return what % 2 == 0 ? fits.size() : fits.isEmpty() ? NOT : what == 1 ? fits.get(0) : fits.get(fits.size() - 1);
    }

    int drawn(int seed, int n, int house) {
        if (!in(n, 1, 30) || !in(house, -1, houses.size() - 1)) {
            return BAD;
        }
        int z = seed;
        int burnt = 0;
        for (int season = 0; season < n; season++) {
            Course course = new Course();
            for (int d = now; d <= 29; d++) {
                boolean[] stood = course.stands.clone();
                int visited = course.visit(d);
                for (int h = 0; h < stood.length; h++) {
                    if (stood[h]) {
                        z = z * 1103515245 + 12345;
                        if ((z >>> 8) % 12 < fire(h, d) && h != visited) {
                            course.stands[h] = false;
                            burnt += house == -1 || house == h ? 1 : 0;
                        }
                    }
                }
            }
        }
        return burnt;
    }

    int pass(int fires) {
        if (fires < 0 || fires >= 1 << houses.size()) {
            return BAD;
        }
        if (now == 29) {
            return STATE;
        }
        int card = new Course().accepted(now);
        int visited = NOT;
        if (card >= 0) {
            Card c = cards.get(card);
            visited = c.house;
            if (c.day == -1) {
                c.used = true;
            }
            houses.get(visited).been++;
            led[1]++;
        }
        for (int h = 0; h < houses.size(); h++) {
            if ((fires >> h & 1) == 1 && houses.get(h).stands) {
                led[h == visited ? 2 : 3]++;
                houses.get(h).stands = h == visited;
            }
        }
        led[0]++;
        now++;
        return visited;
    }

    int build(int house) {
        if (!isHouse(house)) {
            return BAD;
        }
        if (houses.get(house).stands) {
            return STATE;
        }
        houses.get(house).stands = true;
        led[4]++;
        return 1;
    }

    int led(int what) {
        return in(what, 0, 4) ? led[what] : what >= 10 && isHouse(what - 10) ? houses.get(what - 10).been : BAD;
    }

    int image() {
        image = new Image(now, houses.stream().map(h -> h.stands).toList(), houses.stream().map(h -> h.been).toList(),
            cards.stream().map(c -> c.used).toList(), led.clone());
        return now;
    }

    int back() {
        if (image == null) {
            return STATE;
        }
        now = image.now;
        for (int h = 0; h < houses.size(); h++) {
            boolean old = h < image.stands.size();
            if (old) {
                houses.get(h).stands = image.stands.get(h);
            }
            houses.get(h).been = old ? image.been.get(h) : 0;
        }
        for (int c = 0; c < image.used.size(); c++) {
            cards.get(c).used = image.used.get(c);
        }
        System.arraycopy(image.led, 0, led, 0, 5);
        return now;
    }

    int undo() {
        if (done.isEmpty()) {
            return STATE;
        }
        Change c = done.removeLast();
        undone.addLast(c);
        set(c.number, c.what, c.before);
        return done.size();
    }

    int redo() {
        if (undone.isEmpty()) {
            return STATE;
        }
        Change c = undone.removeLast();
        done.addLast(c);
        set(c.number, c.what, c.after);
        return undone.size();
    }

    int body(int kind) {
        if (!in(kind, 0, 7)) {
            return BAD;
        }
        if (bodies.size() == 50) {
            return FULL;
        }
        bodies.add(NaiveBodies.make(kind, bodies.size()));
        return bodies.size() - 1;
    }

    int act(int body, int act, int x) {
        ran = new ArrayList<>();
        if (!in(body, 0, bodies.size() - 1) || !in(act, 0, 3)) {
            return 0;
        }
        NaiveBodies.ran = ran;
        return NaiveBodies.act(bodies.get(body), act, x);
    }

    int trace(int i) {
        return in(i, 0, Math.min(24, ran.size()) - 1) ? ran.get(i) : BAD;
    }

    int keep(int shelf, int body) {
        if (!in(shelf, 0, 5) || !in(body, -1, bodies.size() - 1)) {
            return BAD;
        }
        shelves[shelf] = body < 0 ? null : bodies.get(body);
        return 1;
    }

    int row(int shelf, int sort, int n) {
        if (!in(shelf, 0, 5) || !in(sort, 0, 4) || n > 60) {
            return BAD;
        }
        if (n < 0) {
            return -14;
        }
        shelves[shelf] = switch (sort) {
            case 0 -> new byte[n];
            case 1 -> new short[n];
            case 2 -> new int[n];
            case 3 -> new long[n];
            default -> new boolean[n];
        };
        return 1;
    }

    private static int length(Object row) {
        return java.lang.reflect.Array.getLength(row);
    }

    private int place(int shelf, int i) {
        if (!in(shelf, 0, 5)) {
            return BAD;
        }
        Object row = shelves[shelf];
        return row == null ? -11 : !row.getClass().isArray() ? -12 : in(i, 0, length(row) - 1) ? 0 : -13;
    }

    int put(int shelf, int i, long v) {
        if (place(shelf, i) < 0) {
            return place(shelf, i);
        }
        Object row = shelves[shelf];
        if (row instanceof byte[] a) {
            a[i] = (byte) v;
        } else if (row instanceof short[] a) {
            a[i] = (short) v;
        } else if (row instanceof int[] a) {
            a[i] = (int) v;
        } else if (row instanceof long[] a) {
            a[i] = v;
        } else {
            ((boolean[]) row)[i] = v != 0;
        }
        return 1;
    }

    long element(int shelf, int i) {
        if (place(shelf, i) < 0) {
            return Long.MIN_VALUE;
        }
        Object row = shelves[shelf];
        return row instanceof boolean[] a ? a[i] ? 1 : 0 : java.lang.reflect.Array.getLong(row, i);
    }

    int shift(int shelf, int i, int other, int j, int n) {
        if (!in(shelf, 0, 5) || !in(other, 0, 5)) {
            return BAD;
        }
        Object from = shelves[shelf];
        Object to = shelves[other];
        if (from == null || to == null) {
            return -11;
        }
        if (!from.getClass().isArray() || from.getClass() != to.getClass()) {
            return -12;
        }
        try {
            System.arraycopy(from, i, to, j, n);
            return n;
        } catch (IndexOutOfBoundsException e) {
            return -13;
        }
    }

    int taken(int shelf, int k) {
        if (!in(shelf, 0, 5) || !in(k, 0, 7)) {
            return BAD;
        }
        if (shelves[shelf] == null) {
            return -11;
        }
        return NaiveBodies.KINDS[k].isInstance(shelves[shelf]) ? ((NaiveBodies.Member) shelves[shelf]).kind : -12;
    }

    int count(int what) {
        return switch (what) {
            case 0 -> houses.size();
            case 1 -> cards.size();
            case 2 -> tape.length();
            case 3 -> done.size();
            case 4 -> bodies.size();
            case 5 -> ran.size();
            default -> BAD;
        };
    }
}
