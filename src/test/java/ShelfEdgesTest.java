/** The edges that Terms 5 and promises 33 to 42 name: BODIES, acts, THE TRACE, SHELVES and ROWS, counts. */
public final class ShelfEdgesTest extends Bench {
    private static final int[] ABOVE = {-1, 0, 0, 2, 1, 3, 0, 6};

    public static void main(String[] args) {
        bodies();
        act();
        noTraceThen();
        actsOfEachKind();
        actsWrap();
        numberOfABody();
        trace();
        traceOfTheLatest();
        mostTraced();
        keep();
        keepTakesThePlace();
        row();
        rowAtFirst();
        rowSizes();
        put();
        putKeepsLowestBits();
        element();
        elementBySort();
        shift();
        shiftRefusals();
        shiftPlaces();
        shiftInItself();
        shiftOfEachSort();
        taken();
        takenByKind();
        count();
        end();
    }

    private static AskedFire withBodies(int n) {
        AskedFire x = new AskedFire();
        for (int i = 0; i < n; i++) {
            x.body(i % 8);
        }
        return x;
    }

    private static void bodies() {
        says("A BODY of a KIND (0 .. 7) is kept: its number. BAD, FULL.");
        within("kind", 0, 7, BAD, v -> new AskedFire().body(v));
        says("BODIES 0 .. 49 are kept by call");
        AskedFire x = new AskedFire();
        for (int i = 0; i < 50; i++) {
            due("BAD ahead of it", x.body(8), BAD);
            due("body " + i, x.body(i % 8), i);
            due("count", x.count(4), i + 1);
        }
        due("a fifty-first", x.body(0), FULL);
        due("of kind 7", x.body(7), FULL);
        due("BAD is named first", x.body(8), BAD);
        due("BAD is named first, below", x.body(-1), BAD);
        due("count", x.count(4), 50);
        due("the last comes", x.act(49, 0, 1), 1 + 49 + 3);
        due("the first comes", x.act(0, 0, 1), 1);
    }

    private static void act() {
        says("An ACT (0 .. 3) of a BODY with x. 0, and no TRACE then: no such BODY, ACT.");
        for (int n : new int[] {1, 2, 49, 50}) {
            AskedFire x = withBodies(n);
            for (int body : new int[] {MIN, -1, n, n + 1, MAX}) {
                x.act(0, 0, 9);
                due("body " + body + " of " + n, x.act(body, 0, 9), 0);
                due("nothing ran", x.count(5), 0);
                due("no trace", x.trace(0), BAD);
            }
            for (int act : new int[] {MIN, -1, 4, 5, MAX}) {
                x.act(0, 0, 9);
                due("act " + act, x.act(n - 1, act, 9), 0);
                due("nothing ran", x.count(5), 0);
            }
            for (int act = 0; act <= 3; act++) {
                x.act(n - 1, act, 9);
                due("something ran by act " + act, x.count(5) > 0 ? 1 : 0, 1);
            }
        }
        due("no bodies", new AskedFire().act(0, 0, 9), 0);
    }

    private static void noTraceThen() {
        says("0, and no TRACE then");
        AskedFire x = withBodies(8);
        x.act(5, 3, 5);
        due("a trace", x.count(5), 10);
        x.act(8, 3, 5);
        for (int i = 0; i <= 10; i++) {
            due("trace " + i, x.trace(i), BAD);
        }
        due("count", x.count(5), 0);
    }

    private static void actsOfEachKind() {
        says("the body of its own KIND, or of the next KIND above that has one; super: from the KIND above the body's on");
        AskedFire x = withBodies(8);
        // By hand with x 100, n the kind's number: comes, dances, regrets, tells.
        int[][] want = {
            {100, 200, 100, 200 - 1},
            {104, 208, 100 ^ 1, 208 - (1 ^ 1)},
            {102, -204, 100 ^ 2, -204 - (1 ^ 2)},
            {103, -208, (100 ^ 3) * 3, -208 - (1 ^ 3) * 3},
            {107, 214, 100 ^ 4, (214 - (1 ^ 4)) ^ 5},
            {105, -212, (100 ^ 5) * 3 - 7, -212 - ((1 ^ 5) * 3 - 7) + 1},
            {212, 424, 100 ^ 6, 424 - (1 ^ 6)},
            {213, 426 + (2 ^ 7), 100 ^ 7, 426 + (2 ^ 7) - (1 ^ 7)},
        };
        for (int kind = 0; kind < 8; kind++) {
            for (int act = 0; act < 4; act++) {
                due("kind " + kind + ", act " + act, x.act(kind, act, 100), want[kind][act]);
            }
        }
    }

    private static void actsWrap() {
        says("ACTS with x (an int that wraps)");
        AskedFire x = withBodies(8);
        for (int v : new int[] {MIN, MIN + 1, -1, 0, 1, MAX - 1, MAX, 0x40000000}) {
            due("member comes, " + v, x.act(0, 0, v), v);
            due("member dances, " + v, x.act(0, 1, v), (int) (2L * v));
            due("captain comes, " + v, x.act(1, 0, v), (int) (v + 4L));
            due("cook dances, " + v, x.act(2, 1, v), (int) (-2L * (v + 2L)));
            due("pump dances, " + v, x.act(3, 1, v), (int) (-2L * (v + 4L)));
            due("pump regrets, " + v, x.act(3, 2, v), (int) (3L * (v ^ 3)));
            due("dancer tells, " + v, x.act(4, 3, v), (int) (2L * (v + 7L) - 5L) ^ 5);
            due("guest regrets, " + v, x.act(5, 2, v), (int) (3L * (v ^ 5) - 7L));
            due("guest tells, " + v, x.act(5, 3, v), (int) (-2L * (v + 6L) - (12L - 7L) + 1L));
            due("child comes, " + v, x.act(6, 0, v), (int) (2L * (v + 6L)));
            due("curtain comes, " + v, x.act(7, 0, v), (int) (2L * (v + 7L) - 1L));
            due("curtain dances, " + v, x.act(7, 1, v), (int) (2L * (2L * (v + 7L) - 1L) + 5L));
        }
    }

    private static void numberOfABody() {
        says("n its number");
        AskedFire x = new AskedFire();
        for (int n = 0; n < 50; n++) {
            x.body(0);
        }
        for (int n = 0; n < 50; n++) {
            due("comes " + n, x.act(n, 0, 1000), 1000 + n);
            due("regrets " + n, x.act(n, 2, 1000), 1000 ^ n);
        }
    }

    private static void traceIs(AskedFire x, int body, int act, int... bodies) {
        x.act(body, act, 5);
        due("how many ran, " + body + " does " + act, x.count(5), bodies.length);
        for (int i = 0; i < bodies.length; i++) {
            due(body + " does " + act + ", trace " + i, x.trace(i), bodies[i]);
        }
        for (int i : new int[] {-1, bodies.length, bodies.length + 1, 23, 24, 25, MIN, MAX}) {
            due(body + " does " + act + ", trace " + i, x.trace(i), BAD);
        }
    }

    private static void trace() {
        says("THE TRACE: numbers of the bodies that ran in the latest act(), as they began");
        AskedFire x = withBodies(8);
        int[][] comes = {{1}, {20, 1}, {1}, {1}, {20, 1}, {1}, {70, 1}, {81, 70, 1}};
        int[][] dances = {{10, 1}, {10, 20, 1}, {30, 10, 1}, {41, 30, 10, 1}, {10, 20, 1}, {41, 30, 10, 1},
            {10, 70, 1}, {80, 10, 81, 70, 1, 11}};
        int[][] regrets = {{11}, {11}, {11}, {40, 11}, {11}, {60, 40, 11, 1}, {11}, {11}};
        int[][] tells = {{2, 10, 1, 11}, {2, 10, 20, 1, 11}, {2, 30, 10, 1, 11}, {2, 41, 30, 10, 1, 40, 11},
            {50, 2, 10, 20, 1, 11}, {61, 2, 41, 30, 10, 1, 60, 40, 11, 1}, {2, 10, 70, 1, 11},
            {2, 80, 10, 81, 70, 1, 11, 11}};
        for (int kind = 0; kind < 8; kind++) {
            traceIs(x, kind, 0, comes[kind]);
            traceIs(x, kind, 1, dances[kind]);
            traceIs(x, kind, 2, regrets[kind]);
            traceIs(x, kind, 3, tells[kind]);
        }
    }

    private static void traceOfTheLatest() {
        says("THE TRACE's i-th body. BAD.");
        AskedFire x = withBodies(8);
        due("no act yet", x.trace(0), BAD);
        due("no act yet, count", x.count(5), 0);
        traceIs(x, 5, 3, 61, 2, 41, 30, 10, 1, 60, 40, 11, 1);
        traceIs(x, 0, 0, 1);
        x.body(3);
        x.keep(0, 3);
        due("other calls leave it", x.trace(0), 1);
        due("count", x.count(5), 1);
    }

    private static void mostTraced() {
        says("the first 24 are kept");
        // No act of any KIND runs more than ten, so all are kept, and none is there at 24 or near it.
        AskedFire x = withBodies(50);
        int most = 0;
        for (int body = 0; body < 50; body++) {
            for (int act = 0; act < 4; act++) {
                x.act(body, act, 1);
                most = Math.max(most, x.count(5));
                due("the last that ran is kept", x.trace(x.count(5) - 1) > 0 ? 1 : 0, 1);
            }
        }
        due("most", most, 10);
    }

    private static void keep() {
        says("A SHELF holds nothing (body -1), or a BODY: 1. BAD.");
        within("shelf", 0, 5, BAD, v -> withBodies(1).keep(v, 0));
        within("shelf for nothing", 0, 5, BAD, v -> new AskedFire().keep(v, -1));
        for (int n : new int[] {1, 2, 50}) {
            within("body of " + n, -1, n - 1, BAD, v -> withBodies(n).keep(0, v));
        }
        due("no bodies", new AskedFire().keep(0, 0), BAD);
        due("nothing", new AskedFire().keep(0, -1), 1);
        due("no bodies, -2", new AskedFire().keep(0, -2), BAD);
    }

    private static void keepTakesThePlace() {
        says("SHELVES 0 .. 5 each hold nothing (at first), a BODY, or a ROW");
        AskedFire x = withBodies(8);
        for (int shelf = 0; shelf <= 5; shelf++) {
            due("nothing at first", x.put(shelf, 0, 1), NOTHING);
            due("a body", x.keep(shelf, shelf), 1);
        }
        for (int shelf = 0; shelf <= 5; shelf++) {
            due("its own", x.taken(shelf, shelf), shelf);
        }
        x.row(3, 2, 4);
        x.put(3, 1, 77);
        due("a row for the body", x.taken(3, 0), OTHER);
        due("the others stay", x.taken(2, 2), 2);
        due("and behind", x.taken(4, 4), 4);
        x.keep(3, 7);
        due("a body for the row", x.put(3, 1, 1), OTHER);
        due("taken", x.taken(3, 7), 7);
        x.keep(3, -1);
        due("nothing for the body", x.taken(3, 7), NOTHING);
        x.row(3, 2, 4);
        due("a new row is 0", x.element(3, 1), 0);
        x.keep(3, -1);
        due("nothing for the row", x.put(3, 0, 1), NOTHING);
        x.keep(0, 1);
        x.keep(1, 1);
        due("one body on two shelves", x.taken(0, 1) + x.taken(1, 1), 2);
    }

    private static void row() {
        says("A SHELF holds a ROW: 1. BAD (sort, n above 60); -14.");
        within("shelf", 0, 5, BAD, v -> new AskedFire().row(v, 0, 1));
        within("sort", 0, 4, BAD, v -> new AskedFire().row(0, v, 1));
        for (int sort = 0; sort <= 4; sort++) {
            for (int n : new int[] {0, 1, 59, 60}) {
                due("sort " + sort + ", n " + n, new AskedFire().row(0, sort, n), 1);
            }
            for (int n : new int[] {61, 62, MAX}) {
                due("sort " + sort + ", n " + n, new AskedFire().row(0, sort, n), BAD);
            }
            for (int n : new int[] {-1, -2, MIN}) {
                due("sort " + sort + ", n " + n, new AskedFire().row(0, sort, n), NO_SIZE);
            }
        }
        says("-14 a size below 0");
        due("BAD is named first: sort", new AskedFire().row(0, 5, -1), BAD);
        due("BAD is named first: sort below", new AskedFire().row(0, -1, -1), BAD);
        due("BAD is named first: shelf", new AskedFire().row(6, 0, -1), BAD);
        due("BAD is named first: shelf below", new AskedFire().row(-1, 0, -1), BAD);
    }

    private static void rowAtFirst() {
        says("of 0 bytes, 1 shorts, 2 ints, 3 longs, 4 booleans, of 0 .. 60 elements, 0 at first (false)");
        AskedFire x = new AskedFire();
        for (int sort = 0; sort <= 4; sort++) {
            x.row(0, sort, 60);
            for (int i : new int[] {0, 1, 30, 58, 59}) {
                due("sort " + sort + ", element " + i, x.element(0, i), 0);
                x.put(0, i, -1);
            }
        }
        for (int sort = 0; sort <= 4; sort++) {
            x.row(0, sort, 60);
            for (int i : new int[] {0, 1, 30, 58, 59}) {
                due("anew, sort " + sort + ", element " + i, x.element(0, i), 0);
                x.put(0, i, -1);
            }
        }
        x.row(0, 0, 10);
        x.row(0, 0, 60);
        due("behind a shorter one", x.element(0, 59), 0);
    }

    private static void rowSizes() {
        says("-13 a place that is not there");
        for (int n : new int[] {0, 1, 2, 59, 60}) {
            AskedFire x = new AskedFire();
            x.row(0, 0, 60);
            x.row(0, 1, n);
            for (int i : new int[] {-1, n, n + 1, 60, MIN, MAX}) {
                due("put at " + i + " of " + n, x.put(0, i, 1), NO_PLACE);
                due("element at " + i + " of " + n, x.element(0, i), NONE);
            }
            if (n > 0) {
                due("put at the last of " + n, x.put(0, n - 1, 5), 1);
                due("the last of " + n, x.element(0, n - 1), 5);
                due("put at the first of " + n, x.put(0, 0, 6), 1);
                due("the first of " + n, x.element(0, 0), 6);
            }
        }
    }

    private static void put() {
        says("Element i of a ROW becomes v: 1. BAD, -11, -12, -13.");
        within("shelf", 0, 5, BAD, v -> new AskedFire().put(v, 0, 1));
        AskedFire x = withBodies(1);
        due("nothing", x.put(0, 0, 1), NOTHING);
        due("nothing is named ahead of the place", x.put(0, -1, 1), NOTHING);
        x.keep(0, 0);
        due("a body", x.put(0, 0, 1), OTHER);
        due("a body is named ahead of the place", x.put(0, 60, 1), OTHER);
        x.row(0, 0, 3);
        due("a place", x.put(0, 3, 1), NO_PLACE);
        due("shelf is named ahead of the place", x.put(6, 3, 1), BAD);
        due("put", x.put(0, 2, 9), 1);
        due("the one ahead stays", x.element(0, 1), 0);
        due("put again", x.put(0, 2, 8), 1);
        due("it is", x.element(0, 2), 8);
    }

    private static void putKeepsLowestBits() {
        says("what is put in keeps its lowest bits (a boolean: whether it is not 0; 1 or 0)");
        long[] values = {0, 1, 2, -1, 127, 128, -128, -129, 255, 256, 300, 32767, 32768, -32768, -32769, 65535, 65536,
            MAX, MAX + 1L, MIN, MIN - 1L, 0xFFFFFFFFL, 1L << 32, 1L << 63, Long.MAX_VALUE, 1L << 8, 1L << 16, 0x1FFL};
        int[] bits = {8, 16, 32, 64};
        for (int sort = 0; sort <= 4; sort++) {
            AskedFire x = new AskedFire();
            x.row(5, sort, 1);
            for (long v : values) {
                due("put " + v, x.put(5, 0, v), 1);
                long want = sort == 4 ? (v == 0 ? 0 : 1) : v << (64 - bits[sort]) >> (64 - bits[sort]);
                due(v + " in sort " + sort, x.element(5, 0), want);
            }
        }
        AskedFire y = new AskedFire();
        y.row(0, 0, 1);
        long[] told = {127, 128, 255, 256, 300, -129};
        long[] kept = {127, -128, -1, 0, 44, 127};
        for (int i = 0; i < told.length; i++) {
            y.put(0, 0, told[i]);
            due("byte " + told[i], y.element(0, 0), kept[i]);
        }
    }

    private static void element() {
        says("Element i of a ROW; Long.MIN_VALUE: BAD, -11 to -13.");
        within("shelf", 0, 5, NONE, v -> bytes(new AskedFire(), v, 3).element(v, 0));
        AskedFire x = withBodies(1);
        due("nothing", x.element(0, 0), NONE);
        x.keep(0, 0);
        due("a body", x.element(0, 0), NONE);
        x.row(0, 3, 2);
        due("place -1", x.element(0, -1), NONE);
        due("place 0", x.element(0, 0), 0);
        due("place 1", x.element(0, 1), 0);
        due("place 2", x.element(0, 2), NONE);
    }

    private static void elementBySort() {
        says("of 0 bytes, 1 shorts, 2 ints, 3 longs, 4 booleans");
        AskedFire x = new AskedFire();
        x.row(0, 3, 2);
        x.put(0, 0, Long.MIN_VALUE);
        x.put(0, 1, Long.MAX_VALUE);
        due("the least long is an element as well", x.element(0, 0), Long.MIN_VALUE);
        due("the greatest long", x.element(0, 1), Long.MAX_VALUE);
        x.row(0, 4, 2);
        x.put(0, 0, 1L << 63);
        due("true", x.element(0, 0), 1);
        due("false", x.element(0, 1), 0);
        x.put(0, 0, 0);
        due("false again", x.element(0, 0), 0);
    }

    private static void shift() {
        says("n elements of a ROW from i on come to another one (or the same) from j on, as they all were before: n.");
        within("shelf", 0, 5, BAD, v -> two(5, 5).shift(v, 0, 0, 0, 1));
        within("other", 0, 5, BAD, v -> two(5, 5).shift(0, 0, v, 0, 1));
        AskedFire x = two(5, 3);
        due("two", x.shift(0, 1, 1, 1, 2), 2);
        int[] want = {0, 2, 3};
        for (int i = 0; i < 3; i++) {
            due("other " + i, x.element(1, i), want[i]);
            due("the first stays " + i, x.element(0, i), i + 1);
        }
        due("all three", x.shift(0, 2, 1, 0, 3), 3);
        due("its last", x.element(1, 2), 5);
    }

    /** Shelf 0 with bytes 1, 2, .. and shelf 1 with zeros; the other shelves with nothing. */
    private static AskedFire two(int first, int second) {
        AskedFire x = new AskedFire();
        x.row(0, 0, first);
        for (int i = 0; i < first; i++) {
            x.put(0, i, i + 1);
        }
        x.row(1, 0, second);
        return x;
    }

    private static void shiftRefusals() {
        says("BAD, -11 (either), -12 (no ROWS, or of unlike sorts), -13 (n below 0, too).");
        AskedFire x = two(5, 5);
        x.body(0);
        x.keep(2, 0);
        due("nothing here", x.shift(3, 0, 0, 0, 1), NOTHING);
        due("nothing there", x.shift(0, 0, 3, 0, 1), NOTHING);
        due("nothing at both", x.shift(3, 0, 4, 0, 1), NOTHING);
        due("nothing in itself", x.shift(3, 0, 3, 0, 1), NOTHING);
        due("nothing is named ahead of a body", x.shift(2, 0, 3, 0, 1), NOTHING);
        due("and the other way", x.shift(3, 0, 2, 0, 1), NOTHING);
        due("nothing is named ahead of places", x.shift(0, 9, 3, 0, -1), NOTHING);
        due("a body here", x.shift(2, 0, 0, 0, 1), OTHER);
        due("a body there", x.shift(0, 0, 2, 0, 1), OTHER);
        due("a body in itself", x.shift(2, 0, 2, 0, 0), OTHER);
        due("a body is named ahead of places", x.shift(2, 9, 0, 0, -1), OTHER);
        due("BAD is named first", x.shift(6, 9, 3, 0, -1), BAD);
        due("BAD is named first, other", x.shift(3, 9, 6, 0, -1), BAD);
        for (int here = 0; here <= 4; here++) {
            for (int there = 0; there <= 4; there++) {
                x.row(4, here, 3);
                x.row(5, there, 3);
                due("sort " + here + " to " + there, x.shift(4, 0, 5, 0, 3), here == there ? 3 : OTHER);
                due("none of " + here + " to " + there, x.shift(4, 0, 5, 0, 0), here == there ? 0 : OTHER);
                due("beyond, " + here + " to " + there, x.shift(4, 0, 5, 0, 4), here == there ? NO_PLACE : OTHER);
            }
        }
    }

    private static void shiftPlaces() {
        says("-13 (n below 0, too)");
        int[] edges = {MIN, -1, 0, 1, 2, 3, 4, 5, 6, MAX};
        for (int i : edges) {
            for (int j : edges) {
                for (int n : edges) {
                    boolean there = i >= 0 && j >= 0 && n >= 0 && (long) i + n <= 5 && (long) j + n <= 3;
                    AskedFire x = two(5, 3);
                    due("i " + i + ", j " + j + ", n " + n, x.shift(0, i, 1, j, n), there ? n : NO_PLACE);
                    due("the last", x.element(1, 2), there && n > 0 && j + n == 3 ? i + n : 0);
                }
            }
        }
        AskedFire full = two(60, 60);
        due("sixty", full.shift(0, 0, 1, 0, 60), 60);
        due("sixty-one", full.shift(0, 0, 1, 0, 61), NO_PLACE);
        due("none of none", two(0, 0).shift(0, 0, 1, 0, 0), 0);
        due("one of none", two(0, 0).shift(0, 0, 1, 0, 1), NO_PLACE);
    }

    private static void shiftInItself() {
        says("(or the same) from j on, as they all were before");
        for (int i = 0; i <= 5; i++) {
            for (int j = 0; j <= 5; j++) {
                for (int n = 0; i + n <= 5 && j + n <= 5; n++) {
                    AskedFire x = two(5, 5);
                    due("n", x.shift(0, i, 0, j, n), n);
                    for (int at = 0; at < 5; at++) {
                        int want = at >= j && at < j + n ? at - j + i + 1 : at + 1;
                        due("from " + i + " to " + j + ", " + n + ": " + at, x.element(0, at), want);
                    }
                }
            }
        }
    }

    private static void shiftOfEachSort() {
        says("n elements of a ROW from i on come to another one");
        for (int sort = 0; sort <= 4; sort++) {
            AskedFire x = new AskedFire();
            x.row(0, sort, 2);
            x.row(1, sort, 2);
            x.put(0, 1, -2);
            due("sort " + sort, x.shift(0, 1, 1, 0, 1), 1);
            due("element, sort " + sort, x.element(1, 0), sort == 4 ? 1 : -2);
            due("the other, sort " + sort, x.element(1, 1), 0);
        }
    }

    private static void taken() {
        says("What a SHELF holds, taken for a BODY of KIND k (0 .. 7), or under it: its KIND. BAD, -11, -12.");
        AskedFire x = withBodies(8);
        x.keep(0, 0);
        within("shelf", 0, 5, BAD, v -> new AskedFire().taken(v, 0));
        within("kind", 0, 7, BAD, v -> new AskedFire().taken(0, v));
        due("nothing", x.taken(1, 0), NOTHING);
        due("BAD is named first", x.taken(1, 8), BAD);
        for (int sort = 0; sort <= 4; sort++) {
            x.row(1, sort, 1);
            due("a row of sort " + sort, x.taken(1, 0), OTHER);
            x.row(1, sort, 0);
            due("a row of none of sort " + sort, x.taken(1, 0), OTHER);
        }
        due("BAD is named first, of a row", x.taken(1, -1), BAD);
    }

    private static void takenByKind() {
        says("0 MEMBER; 1 CAPTAIN under MEMBER; 2 COOK under MEMBER; 3 PUMP under COOK; 4 DANCER under CAPTAIN; "
            + "5 GUEST under PUMP; 6 CHILD under MEMBER; 7 CURTAIN under CHILD");
        AskedFire x = withBodies(50);
        for (int body = 0; body < 50; body++) {
            int kind = body % 8;
            x.keep(2, body);
            for (int k = 0; k < 8; k++) {
                boolean under = false;
                for (int at = kind; at >= 0; at = ABOVE[at]) {
                    under |= at == k;
                }
                due(kind + " for " + k, x.taken(2, k), under ? kind : OTHER);
            }
        }
    }

    private static void count() {
        says("How many: 0 HOUSES, 1 CARDS, 2 bytes on THE TAPE, 3 changes that may be UNDONE, 4 BODIES, 5 bodies that ran "
            + "in the latest act() (all, kept or not). BAD.");
        within("what", 0, 5, BAD, v -> new AskedFire().count(v));
        AskedFire x = town(2);
        x.card(0, 1);
        x.card(1, 1);
        x.card(1, -1);
        for (int i = 0; i < 4; i++) {
            x.feed('c');
        }
        for (int i = 0; i < 5; i++) {
            x.mend(0, 0, 100 + i);
        }
        for (int i = 0; i < 6; i++) {
            x.body(i);
        }
        x.act(5, 3, 1);
        int[] want = {2, 3, 4, 5, 6, 10};
        for (int what = 0; what <= 5; what++) {
            due("what " + what, x.count(what), want[what]);
        }
        x.undo();
        due("behind undo()", x.count(3), 4);
        x.redo();
        due("behind redo()", x.count(3), 5);
        x.law();
        due("behind law()", x.count(2), 0);
    }
}
