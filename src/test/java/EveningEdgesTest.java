import java.math.BigInteger;

/** The edges that Terms 3 and 4 and promises 20 to 25 name: evenings, beliefs, lists, rows read back, draws. */
public final class EveningEdgesTest extends Bench {
    public static void main(String[] args) {
        evening();
        hoursAreCutUpward();
        tooLate();
        staysAnHour();
        fewestTooLate();
        firstByNumbers();
        everyTwoCells();
        goesToLostOnes();
        belief();
        beliefTwelveDays();
        beliefTo29();
        beliefEnds();
        beliefWeights();
        beliefNeither();
        beliefRow();
        beliefGreatest();
        clash();
        clashAheadOfNow();
        without();
        match();
        matchByDays();
        judge();
        judgedBeyond29();
        judgedNone();
        read();
        readCakes();
        readFeuds();
        drawn();
        drawnBelowItsOdds();
        drawnWraps();
        drawnSeasons();
        drawnAsTheDayBegins();
        drawnVisits();
        end();
    }

    private static AskedFire inCells(int... cells) {
        AskedFire x = new AskedFire();
        for (int cell : cells) {
            x.house(cell);
        }
        return x;
    }

    private static AskedFire wood(AskedFire x, int... hours) {
        for (int house = 0; house < hours.length; house++) {
            x.mend(house, 4, hours[house]);
        }
        return x;
    }

    private static void way(String what, AskedFire x, int set, int lost, int sum, int... order) {
        due(what + ", lost", x.evening(set, -1), lost);
        due(what + ", sum", x.evening(set, -2), sum);
        for (int k = 0; k < order.length; k++) {
            due(what + ", the " + k + "-th", x.evening(set, k), order[k]);
        }
        due(what + ", not as many", x.evening(set, order.length), NOT);
    }

    private static void evening() {
        says("AN EVENING: how many are lost (k -1), SUM (k -2), the k-th HOUSE (NOT: there are not as many). BAD.");
        for (int n = 0; n <= 6; n++) {
            AskedFire x = town(n);
            for (int k = -2; k <= 6; k++) {
                due("set -1", x.evening(-1, k), BAD);
                due("set beyond " + n, x.evening(1 << n, k), BAD);
                due("set far", x.evening(MAX, k), BAD);
                due("set least", x.evening(MIN, k), BAD);
            }
            due("k -3", x.evening(0, -3), BAD);
            due("k the least", x.evening(0, MIN), BAD);
            int all = (1 << n) - 1;
            for (int k = 0; k < n; k++) {
                due("the " + k + "-th of " + n, x.evening(all, k), k);
            }
            due("one beyond", x.evening(all, n), NOT);
            due("two beyond", x.evening(all, n + 1), NOT);
            due("6", x.evening(all, 6), NOT);
            due("the greatest", x.evening(all, MAX), NOT);
        }
        way("none", town(6), 0, 0, 0);
        way("one of six", town(6), 32, 0, 2, 5);
        AskedFire burnt = town(2);
        burnt.pass(3);
        way("those that do not stand", burnt, 3, 0, 0 + 2, 0, 1);
    }

    private static void hoursAreCutUpward() {
        says("behind as many hours as CELLS there (X and Y apart together) by 4 (cut upward)");
        int[] hours = {0, 1, 1, 1, 1, 2, 2, 2, 2, 3, 3, 3, 3, 4, 4, 4, 4, 5, 5, 5, 5, 6, 6};
        for (int apart = 0; apart <= 22; apart++) {
            int cellX = Math.min(apart, 11);
            due(apart + " apart by X", inCells(12 * (apart - cellX) + cellX).evening(1, -2), hours[apart]);
            due(apart + " apart by Y", inCells(12 * cellX + apart - cellX).evening(1, -2), hours[apart]);
        }
        // From 143 back: both differences are below 0.
        way("back from afar", wood(inCells(143, 0), 6, 9), 3, 1, 6 + 13, 0, 1);
        way("across", inCells(11, 132), 3, 1, 3 + (4 + 6), 0, 1);
    }

    private static void tooLate() {
        says("(a HOUSE it comes to behind more than WOOD hours is lost)");
        int[] cells = {0, 4, 8, 11, 47, 71, 143};
        int[] hours = {0, 1, 2, 3, 4, 4, 6};
        for (int i = 0; i < cells.length; i++) {
            for (int wood = 1; wood <= 9; wood++) {
                AskedFire x = wood(inCells(cells[i]), wood);
                due("cell " + cells[i] + ", wood " + wood, x.evening(1, -1), hours[i] > wood ? 1 : 0);
                due("cell " + cells[i] + ", sum", x.evening(1, -2), hours[i]);
            }
        }
    }

    private static void staysAnHour() {
        says("stays an hour, goes on");
        AskedFire x = inCells(0, 0, 0, 0, 0, 0);
        int[] sums = {0, 0, 1, 3, 6, 10, 15};
        for (int n = 0; n <= 6; n++) {
            due(n + " in the club's cell", x.evening((1 << n) - 1, -2), sums[n]);
        }
        int[] lost = {6 - 2, 6 - 3, 6 - 4, 6 - 5, 0, 0};
        for (int hours = 1; hours <= 6; hours++) {
            wood(x, hours, hours, hours, hours, hours, hours);
            due("wood " + hours, x.evening(63, -1), lost[hours - 1]);
        }
    }

    private static void fewestTooLate() {
        says("in the order in which it comes to fewest too late");
        way("the far one first", wood(inCells(0, 11), 9, 3), 3, 0, 3 + 7, 1, 0);
        way("the far one has an hour more", wood(inCells(0, 11), 9, 4), 3, 0, 0 + 4, 0, 1);
        way("the near one has just enough", wood(inCells(0, 11), 7, 3), 3, 0, 3 + 7, 1, 0);
        way("the near one has an hour less: one is lost either way", wood(inCells(0, 11), 6, 3), 3, 1, 0 + 4, 0, 1);
        // 2 at 1, 1 at 3, 0 at 5: each has just so much wood.
        way("by wood", wood(inCells(4, 4, 4), 3, 2, 1), 7, 0, 1 + 2 + 3, 2, 1, 0);
        way("six by wood", wood(inCells(4, 4, 4, 4, 4, 4), 6, 5, 4, 3, 2, 1), 63, 0, 21, 5, 4, 3, 2, 1, 0);
        // One comes at 6, too late for all; behind 0 only 5 can be it, so that no other is late.
        way("one hour less for 0", wood(inCells(4, 4, 4, 4, 4, 4), 5, 5, 4, 3, 2, 1), 63, 1, 21, 0, 4, 3, 2, 1, 5);
    }

    private static void firstByNumbers() {
        says("the k-th (of like ones the first by numbers); SUM of hours at which it comes (of that order)");
        // 0 first and 1 first both lose one; 1 first has the lesser sum, and yet 0 comes first by numbers.
        way("not by the sum", inCells(11, 12), 3, 1, 3 + 7, 0, 1);
        way("all alike", inCells(5, 5, 5), 7, 1, 2 + 3 + 4, 0, 1, 2);
        way("a set without 0", inCells(5, 5, 5, 5), 14, 1, 2 + 3 + 4, 1, 2, 3);
        way("all lost", wood(inCells(143, 143, 143), 1, 1, 1), 7, 3, 6 + 7 + 8, 0, 1, 2);
        way("all six lost", wood(inCells(143, 143, 143, 143, 143, 143), 1, 1, 1, 1, 1, 1), 63, 6,
            6 + 7 + 8 + 9 + 10 + 11, 0, 1, 2, 3, 4, 5);
    }

    private static int hours(int from, int to) {
        int apart = Math.abs(from % 12 - to % 12) + Math.abs(from / 12 - to / 12);
        return apart / 4 + (apart % 4 == 0 ? 0 : 1);
    }

    private static void everyTwoCells() {
        says("the engine leaves the club's house at hour 0");
        for (int first = 0; first < 144; first++) {
            for (int second = 0; second < 144; second++) {
                int there = hours(0, first);
                int then = there + 1 + hours(first, second);
                int back = hours(0, second);
                int last = back + 1 + hours(second, first);
                int lost = (there > 9 ? 1 : 0) + (then > 9 ? 1 : 0);
                int otherwise = (back > 9 ? 1 : 0) + (last > 9 ? 1 : 0);
                boolean byNumbers = lost <= otherwise;
                AskedFire x = wood(inCells(first, second), 9, 9);
                due(first + ", " + second + ": lost", x.evening(3, -1), Math.min(lost, otherwise));
                due(first + ", " + second + ": sum", x.evening(3, -2), byNumbers ? there + then : back + last);
                due(first + ", " + second + ": first", x.evening(3, 0), byNumbers ? 0 : 1);
            }
        }
    }

    private static void goesToLostOnes() {
        says("AN EVENING goes to lost ones, too.");
        // 0 is lost in any order; by numbers it comes first as long as 1 is in time behind it.
        way("a lost one on the way", wood(inCells(143, 143), 1, 7), 3, 1, 6 + 7, 0, 1);
        way("1 would be late behind it", wood(inCells(143, 143), 1, 6), 3, 1, 6 + 7, 1, 0);
    }

    private static void fraction(String what, AskedFire x, int odds, long above, long below) {
        due(what + ", above", x.belief(0, 0, odds, 0), above);
        due(what + ", below", x.belief(0, 0, odds, 1), below);
    }

    /** House 0 with odds of fire on all days, and a row. */
    private static AskedFire seen(int odds, int... row) {
        AskedFire x = town(1);
        x.mend(0, 1, odds);
        for (int day = 0; day < 30; day++) {
            x.mend(day, 5, 9);
        }
        return bytes(x, 0, row);
    }

    private static int[] like(int v, int n) {
        int[] row = new int[n];
        java.util.Arrays.fill(row, v);
        return row;
    }

    private static void belief() {
        says("(with odds x of twelve then, never else)");
        within("x", 0, 12, NONE, v -> seen(6, 3).belief(0, 0, v, 0));
        within("shelf", 0, 5, NONE, v -> bytes(town(1), v, 3).belief(v, 0, 6, 0));
        for (int odds = 0; odds <= 12; odds++) {
            // 1 * x against 12 * 12: burned on a day it was visited, and it burns else for sure.
            long common = gcd(odds, odds + 144);
            fraction("x " + odds, seen(12, 3), odds, odds / common, (odds + 144) / common);
        }
        says("with a belief of 1 by 13 ahead");
        fraction("nothing seen", seen(6), 6, 1, 13);
    }

    private static long gcd(long a, long b) {
        return BigInteger.valueOf(a).gcd(BigInteger.valueOf(b)).longValue();
    }

    private static void beliefTwelveDays() {
        says("(12 at most, to 29; it ends with what is not 0 .. 3)");
        // x 12 against odds 6: each day doubles 1 against 12.
        for (int n = 0; n <= 60; n += n < 14 ? 1 : 23) {
            long own = 1L << Math.min(n, 12);
            long common = gcd(own, own + 12);
            fraction(n + " days", seen(6, like(3, n)), 12, own / common, (own + 12) / common);
        }
        fraction("the twelfth counts", seen(6, 3, 3, 3, 3, 3, 3, 3, 3, 3, 3, 3, 1), 12, 0, 1);
        fraction("the thirteenth does not", seen(6, 3, 3, 3, 3, 3, 3, 3, 3, 3, 3, 3, 3, 1), 12, 1024, 1027);
    }

    private static void beliefTo29() {
        says("day by day from NOW on 2 times whether it was VISITED, and whether it burned (12 at most, to 29");
        for (int now = 16; now <= 29; now++) {
            long own = 1L << Math.min(12, 30 - now);
            long common = gcd(own, own + 12);
            fraction("NOW " + now, at(now, seen(6, like(3, 20))), 12, own / common, (own + 12) / common);
        }
        fraction("NOW 28, the second counts", at(28, seen(6, 3, 1)), 12, 0, 1);
        fraction("NOW 29, it does not", at(29, seen(6, 3, 1)), 12, 1, 7);
        AskedFire x = at(5, seen(12, 3));
        x.mend(5, 5, 0);
        fraction("odds of NOW: it could not burn else", x, 1, 1, 1);
        x.mend(0, 7, 4);
        fraction("odds of the day ahead", x, 12, 1, 13);
        x.mend(0, 7, 6);
        fraction("odds of the day behind", x, 12, 1, 13);
        bytes(x, 0, 3, 3);
        x.mend(0, 7, 4);
        fraction("the second day is day 5", x, 1, 1, 1);
    }

    private static void beliefEnds() {
        says("it ends with what is not 0 .. 3");
        for (int v : new int[] {-1, 4, 5, 127, -128}) {
            fraction("with " + v, seen(6, 3, v, 1), 12, 1, 7);
            fraction("at once with " + v, seen(6, v, 1), 12, 1, 13);
        }
        int[] above = {2, 0, 0, 2};
        int[] below = {14, 1, 1, 14};
        for (int v = 0; v <= 3; v++) {
            long common = gcd(above[v], below[v]);
            fraction("not with " + v, seen(6, v), 12, above[v] / common, below[v] / common);
        }
    }

    private static void beliefWeights() {
        says("a HOUSE sets its own fires on days it is VISITED");
        // x 9, odds 6: 1 against 12, times what each says of the day.
        fraction("neither", seen(6, 0), 9, 1, 7);
        fraction("burned, not visited", seen(6, 1), 9, 0, 1);
        fraction("visited, not burned", seen(6, 2), 9, 1, 25);
        fraction("both", seen(6, 3), 9, 1, 9);
        // 1 * 12 against 12 * 1.
        fraction("as likely as not", seen(1, 3), 12, 1, 2);
        says("else it burns by ODDS on any day");
        fraction("odds 0, not burned", seen(0, 0), 9, 1, 13);
        fraction("odds 12, not burned", seen(12, 0), 9, 1, 1);
        fraction("odds 0, burned when visited", seen(0, 3), 9, 1, 1);
        fraction("odds 12, burned when visited", seen(12, 3), 12, 1, 13);
    }

    private static void beliefNeither() {
        says("(neither can be: -2 by 1)");
        fraction("burned, not visited, odds 0", seen(0, 1), 6, -2, 1);
        fraction("burned, not visited, odds 1", seen(1, 1), 6, 0, 1);
        fraction("burned when visited, x 0, odds 0", seen(0, 3), 0, -2, 1);
        fraction("burned when visited, x 1, odds 0", seen(0, 3), 1, 1, 1);
        fraction("burned when visited, x 0, odds 1", seen(1, 3), 0, 0, 1);
        fraction("whole when visited, x 12, odds 12", seen(12, 2), 12, -2, 1);
        fraction("whole when visited, x 11, odds 12", seen(12, 2), 11, 1, 1);
        fraction("whole when visited, x 12, odds 11", seen(11, 2), 12, 0, 1);
        fraction("by two days", seen(12, 1, 0), 6, -2, 1);
        fraction("it ends ahead of that", seen(12, 4, 1, 0), 6, 1, 13);
    }

    private static void beliefRow() {
        says("BELIEF (a ROW on a SHELF). Long.MIN_VALUE: BAD, no ROW of bytes.");
        AskedFire x = town(1);
        due("nothing", x.belief(2, 0, 6, 0), NONE);
        x.body(0);
        x.keep(2, 0);
        due("a body", x.belief(2, 0, 6, 0), NONE);
        for (int sort = 1; sort <= 4; sort++) {
            x.row(2, sort, 3);
            due("sort " + sort, x.belief(2, 0, 6, 0), NONE);
        }
        x.row(2, 0, 0);
        due("no bytes", x.belief(2, 0, 6, 1), 13);
        x.pass(1);
        due("of one that does not stand", x.belief(2, 0, 6, 1), 13);
    }

    private static void beliefGreatest() {
        says("what to believe then: a fraction");
        BigInteger own = BigInteger.valueOf(11).pow(12);
        BigInteger any = BigInteger.valueOf(5).pow(12).multiply(BigInteger.valueOf(12));
        // 11 and 5 * 12 have nothing in common, so these are lowest terms.
        fraction("twelve days of 11 against 5", seen(7, like(2, 12)), 1, own.longValueExact(),
            own.add(any).longValueExact());
        BigInteger most = BigInteger.valueOf(11).pow(12).multiply(BigInteger.valueOf(12));
        BigInteger least = BigInteger.valueOf(7).pow(12);
        fraction("twelve days of 7 against 11", seen(1, like(2, 12)), 5, least.longValueExact(),
            least.add(most).longValueExact());
        fraction("twelve days of 12 against 12", seen(0, like(0, 12)), 12, 1, 13);
    }

    private static void clash() {
        says("CLASH (what 0), WITHOUT (1): bits; MATCH (2). BAD.");
        within("what", 0, 2, BAD, v -> town(1).lists(v));
        says("CLASH: which days (bits 0 .. 29) have CARDS of two HOUSES or more (for that day; of HOUSES that stand).");
        AskedFire x = town(3);
        x.card(0, 0);
        due("one house", x.lists(0), 0);
        x.card(0, 0);
        due("one house twice", x.lists(0), 0);
        x.card(1, -1);
        due("without a day", x.lists(0), 0);
        x.card(1, 1);
        due("on another day", x.lists(0), 0);
        x.mend(3, 6, 0);
        due("two houses", x.lists(0), 1);
        x.card(2, 0);
        due("three houses", x.lists(0), 1);
        AskedFire any = asked(2, -1);
        any.card(1, -1);
        due("both without a day", any.lists(0), 0);
        int[] days = {3, 17, 29};
        for (int day : days) {
            any.card(0, day);
            any.card(1, day);
        }
        due("three days", any.lists(0), 1 << 3 | 1 << 17 | 1 << 29);
        AskedFire y = town(2);
        y.card(0, 0);
        y.card(1, 0);
        for (int day = 0; day <= 29; day++) {
            y.mend(0, 6, day);
            y.mend(1, 6, day);
            due("day " + day, y.lists(0), 1 << day);
        }
        y.mend(0, 2, 0);
        due("liked or not", y.lists(0), 1 << 29);
        y.pass(1);
        due("one stands no more", y.lists(0), 0);
        y.build(0);
        due("built anew", y.lists(0), 1 << 29);
    }

    private static void clashAheadOfNow() {
        says("CLASH: days ahead of NOW, too.");
        AskedFire x = town(2);
        x.card(0, 4);
        x.card(1, 4);
        for (int now : new int[] {3, 4, 5, 29}) {
            due("NOW " + now, at(now, x).lists(0), 1 << 4);
        }
    }

    private static void without() {
        says("WITHOUT: which HOUSES that stand (bits) have no CARD that may still be ACCEPTED from NOW on.");
        int[] bits = {0, 1, 3, 7, 15, 31, 63};
        for (int n = 0; n <= 6; n++) {
            due(n + " houses", town(n).lists(1), bits[n]);
        }
        AskedFire x = asked(6, 4);
        x.card(5, -1);
        due("two have one", x.lists(1), 30);
        x.mend(5, 3, 9);
        due("liked or not", x.lists(1), 30);
        int[] nows = {3, 4, 5, 29};
        int[] want = {30, 30, 31, 31};
        for (int i = 0; i < nows.length; i++) {
            due("NOW " + nows[i], at(nows[i], x).lists(1), want[i]);
        }
        x.mend(5, 3, 0);
        x.mend(0, 7, 10);
        x.pass(0);
        due("used", x.lists(1), 63);
        x.pass(34);
        due("two stand no more", x.lists(1), 29);
        AskedFire last = at(29, asked(1, 29));
        due("on the last day", last.lists(1), 0);
        // By the words "all CARDS for it": one USED without a day that has got a day since lies for that day.
        AskedFire since = asked(1, -1);
        since.pass(0);
        due("used", since.lists(1), 1);
        since.mend(0, 6, 1);
        due("used, for NOW since", since.lists(1), 0);
        due("accepted", since.accepts(1, 0), 0);
        due("matched", since.lists(2), 1);
        since.mend(0, 6, 0);
        due("used, for a day gone by", since.lists(1), 1);
    }

    private static void match() {
        says("MATCH: the greatest number of HOUSES that stand that can each be VISITED once from NOW on by their CARDS, "
            + "one a day, whether liked or not.");
        AskedFire x = town(3);
        due("no cards", x.lists(2), 0);
        x.card(0, 5);
        x.card(1, 5);
        x.card(2, 5);
        due("three on one day", x.lists(2), 1);
        x.card(0, 6);
        due("one goes aside", x.lists(2), 2);
        x.card(1, 6);
        due("two on the other", x.lists(2), 2);
        x.card(1, 7);
        due("all three", x.lists(2), 3);
        for (int house = 0; house < 3; house++) {
            x.mend(house, 3, 9);
        }
        due("whether liked or not", x.lists(2), 3);
        AskedFire one = asked(1, -1);
        one.card(0, -1);
        one.card(0, 3);
        due("one house once", one.lists(2), 1);
        one.pass(0);
        one.pass(0);
        due("its day is left", one.lists(2), 1);
        one.mend(0, 7, 4);
        due("all are gone", one.lists(2), 0);
    }

    private static void matchByDays() {
        says("can each be VISITED once from NOW on by their CARDS, one a day");
        AskedFire x = town(6);
        for (int house = 0; house < 6; house++) {
            x.card(house, -1);
        }
        int[] nows = {0, 23, 24, 25, 26, 27, 28, 29};
        int[] want = {6, 6, 6, 5, 4, 3, 2, 1};
        for (int i = 0; i < nows.length; i++) {
            due("NOW " + nows[i], at(nows[i], x).lists(2), want[i]);
        }
        x.mend(0, 7, 0);
        x.pass(62);
        due("one is left, and its card is used", x.lists(2), 0);
        x.build(5);
        due("one is built anew", x.lists(2), 1);
        AskedFire y = town(2);
        y.card(0, 4);
        y.card(1, 4);
        due("both on day 4", at(4, y).lists(2), 1);
        y.card(1, 3);
        due("day 3 is gone", y.lists(2), 1);
        due("day 3 is NOW", at(3, y).lists(2), 2);
    }

    private static void judge() {
        says("JUDGED (a ROW on a SHELF). BAD, -11, -12; NOT.");
        within("shelf", 0, 5, BAD, v -> town(1).judge(v));
        AskedFire x = town(1);
        due("nothing", x.judge(0), NOTHING);
        x.body(0);
        x.keep(0, 0);
        due("a body", x.judge(0), OTHER);
        for (int sort = 1; sort <= 4; sort++) {
            x.row(0, sort, 0);
            due("sort " + sort, x.judge(0), OTHER);
        }
        x.row(0, 0, 0);
        due("no bytes", x.judge(0), NOT);
        says("which one, from 0, is the first that is not so by THE LAW");
        AskedFire y = town(2);
        y.card(1, 1);
        y.card(0, 2);
        due("all so", bytes(y, 0, 6, 1, 0, 6).judge(0), NOT);
        due("the first", bytes(y, 0, 0, 1, 0, 6).judge(0), 0);
        due("the second", bytes(y, 0, 6, 0, 0, 6).judge(0), 1);
        due("the third", bytes(y, 0, 6, 1, 1, 6).judge(0), 2);
        due("the last", bytes(y, 0, 6, 1, 0, 1).judge(0), 3);
        due("the first of two", bytes(y, 0, 6, 6, 6, 6).judge(0), 1);
        due("from NOW on", at(1, bytes(y, 0, 1, 0, 6)).judge(0), NOT);
    }

    private static void judgedBeyond29() {
        says("is the first that is not so by THE LAW (beyond day 29, too)");
        int[] nows = {0, 1, 27, 28, 29};
        for (int now : nows) {
            int days = 30 - now;
            for (int length : new int[] {days - 1, days, days + 1, 60}) {
                AskedFire x = bytes(at(now, town(1)), 0, like(6, length));
                due("NOW " + now + ", " + length + " days", x.judge(0), length > days ? days : NOT);
            }
        }
    }

    private static void judgedNone() {
        says("which HOUSE was VISITED day by day from NOW on (6: none)");
        for (int v : new int[] {-128, -1, 0, 1, 5, 6, 7, 127}) {
            due("nobody is, " + v, bytes(town(1), 0, v).judge(0), v == 6 ? NOT : 0);
            due("0 is, " + v, bytes(asked(1, 0), 0, v).judge(0), v == 0 ? NOT : 0);
        }
        AskedFire x = town(6);
        x.card(5, 0);
        due("5 is", bytes(x, 0, 5).judge(0), NOT);
        due("6 is none", bytes(x, 0, 6).judge(0), 0);
    }

    private static void read() {
        says("CAKES: how many (what 0), the least (1; NOT); FEUDS: how many (2), the greatest (3; NOT). BAD, -11, -12.");
        within("what", 0, 3, BAD, v -> bytes(town(1), 0, 6).read(0, 0, v));
        within("shelf", 0, 5, BAD, v -> town(1).read(v, 0, 0));
        AskedFire x = town(1);
        due("nothing", x.read(0, 0, 0), NOTHING);
        due("BAD is named first", x.read(0, 1, 0), BAD);
        x.body(0);
        x.keep(0, 0);
        due("a body", x.read(0, 0, 0), OTHER);
        for (int sort = 1; sort <= 4; sort++) {
            x.row(0, sort, 1);
            due("sort " + sort, x.read(0, 0, 3), OTHER);
            due("BAD is named first, sort " + sort, x.read(0, 0, 4), BAD);
        }
    }

    private static void fits(String law, int cakes, int least, int feuds, int greatest) {
        AskedFire x = bytes(by(law, asked(1, 0)), 0, 0);
        x.mend(0, 2, 7);
        x.mend(0, 3, 6);
        int[] want = {cakes, least, feuds, greatest};
        for (int what = 0; what < 4; what++) {
            due(law + ", what " + what, x.read(0, 0, what), want[what]);
        }
        due("cake as it was", x.of(0, 2), 7);
        due("feud as it was", x.of(0, 3), 6);
        due("no change but two", x.count(3), 2);
    }

    private static void readCakes() {
        says("CAKES: by how many CAKES (0 .. 9) of a HOUSE all is so; the least (NOT).");
        fits("1", 10, 0, 10, 9);
        fits("c", 9, 1, 10, 9);
        fits("c=0|f=0", 1, 0, 1, 0);
        fits("c=9|f=9", 1, 9, 1, 9);
        fits("c>9", 0, NOT, 0, NOT);
        fits("c=2|c=5|c=8", 3, 2, 0, NOT);
        // Nobody was VISITED: the other way round.
        AskedFire x = bytes(by("c-8", asked(1, 0)), 0, 6);
        due("cakes 0 .. 8", x.read(0, 0, 0), 9);
        due("the least", x.read(0, 0, 1), 0);
        due("no days", bytes(town(1), 0).read(0, 0, 0), 10);
        due("beyond day 29 nothing fits", at(29, bytes(town(1), 0, 6, 6)).read(0, 0, 0), 0);
        due("beyond day 29 there is no least", at(29, bytes(town(1), 0, 6, 6)).read(0, 0, 1), NOT);
    }

    private static void readFeuds() {
        says("FEUDS: likewise of FEUD; the greatest (NOT).");
        fits("9-f", 10, 0, 9, 8);
        fits("f=2|f=5|f=7", 0, NOT, 3, 7);
        fits("f=6", 10, 0, 1, 6);
        AskedFire x = bytes(asked(2, 0), 0, 0);
        x.card(1, 0);
        due("another house's feuds: all", x.read(0, 1, 2), 10);
        due("the greatest", x.read(0, 1, 3), 9);
        due("another house's cakes: 0 .. 5", x.read(0, 1, 0), 6);
    }

    /** z behind so many draws, by longs, as a number 0 .. 2^32 - 1. */
    private static long z(int seed, int draws) {
        long z = seed & 0xFFFFFFFFL;
        for (int i = 0; i < draws; i++) {
            z = (z * 1103515245L + 12345L) & 0xFFFFFFFFL;
        }
        return z;
    }

    private static int draw(int seed, int draws) {
        return (int) ((z(seed, draws) >> 8) % 12);
    }

    private static void drawn() {
        says("DRAWN: n seasons (1 .. 30) from NOW to day 29 by a SEED");
        within("n", 1, 30, BAD, v -> town(1).drawn(1, v, -1));
        for (int n = 1; n <= 6; n++) {
            int houses = n;
            within("house of " + n, -1, n - 1, BAD, v -> town(houses).drawn(1, 1, v));
        }
        AskedFire x = seen(12);
        due("burnt for sure, one season", x.drawn(0, 1, -1), 1);
        due("burnt for sure, 30 seasons", x.drawn(0, 30, 0), 30);
        due("nothing in deed", x.of(0, 8), 1);
        AskedFire last = at(29, town(1));
        last.mend(0, 1, 12);
        for (int day = 0; day < 30; day++) {
            last.mend(day, 5, day == 29 ? 0 : 9);
        }
        due("day 28 is gone", last.drawn(1, 30, -1), 0);
        last.mend(29, 5, 9);
        due("day 29 counts", last.drawn(1, 30, -1), 30);
    }

    private static void drawnBelowItsOdds() {
        says("it burns, if (z >>> 8) % 12 is below its ODDS");
        for (int seed = -30; seed <= 30; seed++) {
            for (int odds = 0; odds <= 12; odds++) {
                AskedFire x = at(29, town(1));
                x.mend(0, 1, odds);
                x.mend(29, 5, 9);
                due("seed " + seed + ", odds " + odds, x.drawn(seed, 1, 0), draw(seed, 1) < odds ? 1 : 0);
            }
        }
    }

    private static void drawnWraps() {
        says("z = z * 1103515245 + 12345 (an int; SEED at first)");
        for (int seed : new int[] {MIN, MIN + 1, -1, 0, 1, MAX - 1, MAX, 0x55555555}) {
            AskedFire x = at(29, town(6));
            x.mend(29, 5, 9);
            int all = 0;
            for (int house = 0; house < 6; house++) {
                x.mend(house, 1, 6);
                int burnt = draw(seed, house + 1) < 6 ? 1 : 0;
                all += burnt;
            }
            due("seed " + seed, x.drawn(seed, 1, -1), all);
            for (int house = 0; house < 6; house++) {
                due("seed " + seed + ", house " + house, x.drawn(seed, 1, house), draw(seed, house + 1) < 6 ? 1 : 0);
            }
        }
    }

    private static void drawnSeasons() {
        says("how many HOUSES are BURNT, all together; how often a told one is");
        for (int n : new int[] {1, 2, 3, 29, 30}) {
            AskedFire x = at(29, town(2));
            x.mend(29, 5, 9);
            x.mend(0, 1, 5);
            x.mend(1, 1, 8);
            int[] burnt = new int[2];
            for (int draws = 1; draws <= 2 * n; draws++) {
                burnt[(draws - 1) % 2] += draw(77, draws) < (draws % 2 == 1 ? 5 : 8) ? 1 : 0;
            }
            due(n + " seasons, 0", x.drawn(77, n, 0), burnt[0]);
            due(n + " seasons, 1", x.drawn(77, n, 1), burnt[1]);
            due(n + " seasons, all", x.drawn(77, n, -1), burnt[0] + burnt[1]);
        }
        due("seasons do not go on from one another", seen(12).drawn(9, 30, -1), 30);
    }

    private static void drawnAsTheDayBegins() {
        says("ahead of each HOUSE that stands as the day begins, by numbers, on each day");
        for (int seed = 0; seed < 40; seed++) {
            AskedFire x = at(28, town(2));
            x.mend(28, 5, 9);
            x.mend(29, 5, 9);
            x.mend(0, 1, 12);
            x.mend(1, 1, 4);
            // Day 28: a draw for 0, which burns, and for 1; day 29: for 1 alone, if it stands.
            boolean burnt = draw(seed, 2) < 4 || draw(seed, 3) < 4;
            due("seed " + seed, x.drawn(seed, 1, 1), burnt ? 1 : 0);
            x.mend(0, 7, 27);
            x.mend(27, 5, 9);
            x.mend(0, 1, 0);
            boolean later = draw(seed, 2) < 4 || draw(seed, 4) < 4 || draw(seed, 6) < 4;
            due("seed " + seed + ", 0 stands", x.drawn(seed, 1, 1), later ? 1 : 0);
        }
        AskedFire gone = at(28, town(2));
        gone.mend(28, 5, 9);
        gone.mend(29, 5, 9);
        gone.mend(1, 1, 4);
        gone.pass(1);
        for (int seed = 0; seed < 40; seed++) {
            due("0 is gone, seed " + seed, gone.drawn(seed, 1, 1), draw(seed, 1) < 4 ? 1 : 0);
            due("0 burns no more", gone.drawn(seed, 30, 0), 0);
        }
    }

    private static void drawnVisits() {
        says("VISITS by THE LAW as all stands then");
        AskedFire x = at(27, town(2));
        x.mend(0, 1, 12);
        x.mend(1, 1, 12);
        x.mend(27, 5, 0);
        x.mend(28, 5, 9);
        x.mend(29, 5, 9);
        x.card(0, 29);
        x.card(1, 28);
        x.card(1, 29);
        // Day 28: 1 is saved, 0 is burnt; so on day 29 1 is VISITED, though card 0 is the least of like ones.
        due("1 is never burnt", x.drawn(3, 30, 1), 0);
        due("0 always", x.drawn(3, 30, 0), 30);
        due("in thought 0 is visited on day 29", x.accepts(29, 1), 0);
        x.mend(1, 6, 5);
        due("neither is visited on day 28", x.drawn(3, 30, -1), 60);
        AskedFire used = at(28, town(1));
        used.mend(0, 1, 12);
        used.mend(28, 5, 9);
        used.mend(29, 5, 9);
        used.card(0, -1);
        due("a card without a day saves once a season", used.drawn(3, 30, 0), 30);
        used.mend(29, 5, 0);
        due("which is enough here, each season anew", used.drawn(3, 30, 0), 0);
        due("it is not used in deed", used.of(0, 10), 0);
    }
}
