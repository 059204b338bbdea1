/** The edges that Terms 2 and promises 10 to 19 name: days in thought, BURNS, MEAN, PLAN, ASK, SWEETEN, BEARS. */
public final class ThoughtEdgesTest extends Bench {
    private static final int[] NOWS = {0, 1, 15, 28, 29};

    public static void main(String[] args) {
        accepts();
        visitsToADay();
        firstDayAlone();
        driest();
        odds();
        parts();
        burns();
        burnsTo29();
        burnsOfOneThatDoesNotStand();
        burnsByDays();
        lowestTerms();
        mean();
        planDays();
        planAny();
        planLikeOnes();
        planOnce();
        planned();
        ask();
        askOfLikeOnes();
        askWith12Cards();
        askByWhicheverCard();
        sweeten();
        sweetenLeast();
        bears();
        allDaysAnew();
        noFires();
        end();
    }

    /** Odds 12 of 12 on any day that is not made wet. */
    private static AskedFire burning(int houses) {
        AskedFire x = town(houses);
        for (int house = 0; house < houses; house++) {
            x.mend(house, 1, 12);
        }
        return x;
    }

    private static void weather(AskedFire x, int... dry) {
        for (int i = 0; i < dry.length; i++) {
            x.mend(i, 5, dry[i]);
        }
    }

    private static void fraction(String what, long above, long below, long wantAbove, long wantBelow) {
        due(what + ", above", above, wantAbove);
        due(what + ", below", below, wantBelow);
    }

    private static void burnt(String what, AskedFire x, int house, int t, long above, long below) {
        fraction(what, x.burns(house, t, 0), x.burns(house, t, 1), above, below);
    }

    private static void mean(String what, AskedFire x, int t, long above, long below) {
        fraction(what, x.mean(t, 0), x.mean(t, 1), above, below);
    }

    private static void plan(String what, AskedFire x, int t, long above, long below, int... chosen) {
        fraction(what, x.plan(t, 0), x.plan(t, 1), above, below);
        for (int k = 0; k < t; k++) {
            due(what + ", day " + k, x.planned(t, k), chosen[k]);
        }
    }

    private static void accepts() {
        says("which CARD is ACCEPTED on a day (NOW or later, at most 29; NOT), which HOUSE is VISITED (NOT)");
        for (int now : NOWS) {
            within("day, NOW " + now, now, 29, BAD, v -> at(now, town(1)).accepts(v, 0));
            within("house, NOW " + now, now, 29, BAD, v -> at(now, town(1)).accepts(v, 1));
        }
        within("what", 0, 1, BAD, v -> town(1).accepts(0, v));
        AskedFire x = town(3);
        due("no card", x.accepts(0, 0), NOT);
        due("no house", x.accepts(0, 1), NOT);
        x.card(2, 29);
        due("card on the last day", x.accepts(29, 0), 0);
        due("house on the last day", x.accepts(29, 1), 2);
        due("the day ahead", x.accepts(28, 0), NOT);
        x.mend(0, 7, 29);
        due("NOW 29", x.accepts(29, 1), 2);
        due("BAD is named first", x.accepts(30, 2), BAD);
    }

    private static void visitsToADay() {
        says("how often one is VISITED from NOW to a day");
        for (int now : NOWS) {
            within("day, NOW " + now, now, 29, BAD, v -> at(now, town(1)).visits(0, v));
        }
        AskedFire x = asked(2, 5);
        x.card(0, 7);
        int[] sums = {0, 0, 0, 0, 0, 1, 1, 2, 2};
        for (int day = 0; day <= 8; day++) {
            due("to day " + day, x.visits(0, day), sums[day]);
            due("the other to day " + day, x.visits(1, day), 0);
        }
        x.mend(0, 7, 5);
        due("NOW counts", x.visits(0, 5), 1);
        x.mend(0, 7, 6);
        due("a day ahead of NOW does not", x.visits(0, 6), 0);
        due("to day 7", x.visits(0, 7), 1);
        x.pass(0);
        x.pass(0);
        due("in deed is not in thought", x.visits(0, 29), 0);
        AskedFire last = asked(1, 29);
        due("to 28", last.visits(0, 28), 0);
        due("to 29", last.visits(0, 29), 1);
    }

    private static void firstDayAlone() {
        says("the first day from NOW on on which nobody is VISITED (NOT by 29)");
        AskedFire x = by("1", town(1));
        for (int i = 0; i < 12; i++) {
            due("with " + i + " cards", x.first(0), i);
            x.card(0, -1);
        }
        due("with 12 cards", x.first(0), 12);
        int[] nows = {1, 16, 17, 18, 19, 29};
        int[] firsts = {13, 28, 29, NOT, NOT, NOT};
        for (int i = 0; i < nows.length; i++) {
            x.mend(0, 7, nows[i]);
            due("NOW " + nows[i], x.first(0), firsts[i]);
        }
        within("what", 0, 1, BAD, v -> new AskedFire().first(v));
        AskedFire y = at(29, town(1));
        due("NOW 29, no card", y.first(0), 29);
        y.card(0, 29);
        due("NOW 29, a card", y.first(0), NOT);
    }

    private static void driest() {
        says("DRIEST: the day from NOW on that is driest (of like ones the first).");
        AskedFire x = new AskedFire();
        due("all alike", x.first(1), 0);
        x.mend(29, 5, 6);
        due("the last", x.first(1), 29);
        x.mend(28, 5, 6);
        due("of like ones the first", x.first(1), 28);
        x.mend(0, 5, 6);
        due("day 0", x.first(1), 0);
        x.mend(0, 7, 1);
        due("from NOW on", x.first(1), 28);
        x.mend(0, 7, 28);
        due("NOW counts", x.first(1), 28);
        x.mend(0, 7, 29);
        due("NOW 29", x.first(1), 29);
        x.mend(0, 7, 0);
        for (int day = 0; day < 30; day++) {
            x.mend(day, 5, 0);
        }
        due("all wet", x.first(1), 0);
        x.mend(17, 5, 1);
        due("one less wet", x.first(1), 17);
        for (int now = 0; now < 30; now++) {
            for (int day = now; day < 30; day++) {
                AskedFire y = at(now, new AskedFire());
                y.mend(day, 5, 6);
                due("NOW " + now + ", driest " + day, y.first(1), day);
                y.mend(day, 5, 4);
                due("NOW " + now + ", wettest " + day, y.first(1), day == now && now < 29 ? now + 1 : now);
            }
        }
    }

    private static void odds() {
        says("ODDS of fire on a day. BAD.");
        within("day", 0, 29, BAD, v -> town(1).odds(0, v));
        says("ODDS: whether it stands or not.");
        AskedFire x = burning(1);
        due("stands", x.odds(0, 1), 6);
        x.pass(1);
        due("stands no more", x.odds(0, 1), 6);
        x.mend(0, 1, 0);
        due("least", x.odds(0, 1), 0);
        x.mend(0, 1, 12);
        x.mend(1, 5, 9);
        due("most", x.odds(0, 1), 12);
    }

    private static void parts() {
        says("(part 0 above, 1 below the line)");
        within("burns", 0, 1, NONE, v -> town(1).burns(0, 2, v));
        within("burns of one burnt", 0, 1, NONE, v -> gone().burns(0, 2, v));
        within("mean", 0, 1, NONE, v -> town(1).mean(2, v));
        within("plan", 0, 1, NONE, v -> town(1).plan(2, v));
        within("belief", 0, 1, NONE, v -> bytes(town(1), 0, 0).belief(0, 0, 6, v));
        due("above", town(1).burns(0, 1, 0), 1);
        due("below", town(1).burns(0, 1, 1), 12);
    }

    private static AskedFire gone() {
        AskedFire x = town(1);
        x.pass(1);
        return x;
    }

    private static long power(int base, int t) {
        long v = 1;
        for (int i = 0; i < t; i++) {
            v *= base;
        }
        return v;
    }

    private static void burns() {
        says("how likely a HOUSE that stands is BURNT within t (0 .. 8) days from NOW on");
        within("t", 0, 8, NONE, v -> town(1).burns(0, v, 0));
        within("t of one burnt", 0, 8, NONE, v -> gone().burns(0, v, 0));
        // Odds 1 of 12 each day: 1 less (11 by 12) to the t, and 12 has no part in common with 11.
        for (int t = 0; t <= 8; t++) {
            burnt("t " + t, town(1), 0, t, power(12, t) - power(11, t), power(12, t));
        }
        says("All fractions are in lowest terms (0 by 1, where what is above the line is 0).");
        burnt("t 0", town(1), 0, 0, 0, 1);
        AskedFire x = town(1);
        x.mend(0, 1, 0);
        burnt("no risk", x, 0, 8, 0, 1);
    }

    /** One house, whose cards are all for days gone by. */
    private static AskedFire late(int now) {
        AskedFire x = at(now, town(1));
        for (int i = 0; i < 12; i++) {
            x.card(0, 9);
        }
        return x;
    }

    private static void burnsTo29() {
        says("days from NOW on (to 29 at most)");
        int[] nows = {21, 22, 23, 24, 28, 29};
        int[] days = {8, 8, 7, 6, 2, 1};
        for (int i = 0; i < nows.length; i++) {
            AskedFire x = late(nows[i]);
            burnt("NOW " + nows[i], x, 0, 8, power(12, days[i]) - power(11, days[i]), power(12, days[i]));
            int t = Math.min(4, days[i]);
            mean("mean, NOW " + nows[i], x, 4, power(12, t) - power(11, t), power(12, t));
            fraction("plan, NOW " + nows[i], x.plan(4, 0), x.plan(4, 1), power(12, t) - power(11, t), power(12, t));
        }
        for (int now = 25; now <= 29; now++) {
            AskedFire x = late(now);
            int t = Math.min(4, 30 - now);
            mean("mean, NOW " + now, x, 4, power(12, t) - power(11, t), power(12, t));
            fraction("plan, NOW " + now, x.plan(4, 0), x.plan(4, 1), power(12, t) - power(11, t), power(12, t));
            burnt("burns, NOW " + now + ", t 4", x, 0, 4, power(12, t) - power(11, t), power(12, t));
        }
        AskedFire dry = at(28, burning(1));
        dry.mend(29, 5, 9);
        burnt("day 28 alone", dry, 0, 1, 1, 2);
        burnt("day 29 counts", dry, 0, 2, 1, 1);
    }

    private static void burnsOfOneThatDoesNotStand() {
        says("(of one that does not stand: 1 by 1)");
        for (int t = 0; t <= 8; t++) {
            burnt("t " + t, gone(), 0, t, 1, 1);
        }
        AskedFire x = gone();
        x.mend(0, 1, 0);
        burnt("no risk", x, 0, 8, 1, 1);
        x.build(0);
        burnt("built anew", x, 0, 8, 0, 1);
    }

    private static void burnsByDays() {
        says("VISITS as told ahead");
        AskedFire x = burning(2);
        weather(x, 9, 0, 9);
        x.card(0, 0);
        burnt("visited on day 0", x, 0, 1, 0, 1);
        burnt("day 1 is wet", x, 0, 2, 0, 1);
        burnt("not visited on day 2", x, 0, 3, 1, 1);
        burnt("the other", x, 1, 1, 1, 1);
        x.card(0, 2);
        burnt("visited on day 2, day 3 is half", x, 0, 4, 1, 2);
        says("BURNS: days for themselves.");
        // Three days of one half, the other one visited on the second: a house burns but once.
        AskedFire y = burning(1);
        y.card(0, 1);
        burnt("two halves", y, 0, 3, 3, 4);
        // Another house's fires do not change who is VISITED.
        AskedFire z = burning(2);
        weather(z, 9, 9);
        z.card(0, 1);
        z.card(1, 1);
        burnt("1 is not visited, though 0 is surely burnt by then", z, 1, 2, 1, 1);
        burnt("0 is burnt on day 0", z, 0, 2, 1, 1);
    }

    private static void lowestTerms() {
        says("a fraction in lowest terms");
        int[] above = {0, 1, 1, 1, 1, 5, 1, 7, 2, 3, 5, 11, 1};
        int[] below = {1, 12, 6, 4, 3, 12, 2, 12, 3, 4, 6, 12, 1};
        AskedFire x = town(1);
        x.mend(0, 5, 9);
        for (int risk = 0; risk <= 12; risk++) {
            x.mend(0, 1, risk);
            burnt("odds " + risk, x, 0, 1, above[risk], below[risk]);
            mean("mean of odds " + risk, x, 1, above[risk], below[risk]);
            fraction("plan of odds " + risk, x.plan(1, 0), x.plan(1, 1), above[risk], below[risk]);
        }
    }

    private static void mean() {
        says("MEAN: of how many HOUSES that stand that is the mean: a fraction (t 0 .. 4).");
        within("t", 0, 4, NONE, v -> town(1).mean(v, 0));
        mean("no houses", new AskedFire(), 4, 0, 1);
        mean("t 0", town(6), 0, 0, 1);
        int[] above = {1, 1, 1, 1, 5, 1};
        int[] below = {12, 6, 4, 3, 12, 2};
        for (int houses = 1; houses <= 6; houses++) {
            mean(houses + " houses", town(houses), 1, above[houses - 1], below[houses - 1]);
        }
        AskedFire x = burning(6);
        weather(x, 9);
        mean("all six, surely", x, 1, 6, 1);
        x.pass(5);
        mean("two are gone", x, 1, 2, 1);
        x.pass(63);
        mean("all are gone", x, 4, 0, 1);
        AskedFire y = asked(2, 0);
        mean("one is visited", y, 1, 1, 12);
    }

    private static void planDays() {
        says("PLAN: for each of t (0 .. 4) days from NOW on");
        within("t", 0, 4, NONE, v -> town(1).plan(v, 0));
        within("t of planned", 1, 4, BAD, v -> town(1).planned(v, 0));
        plan("no houses", new AskedFire(), 4, 0, 1, NOT, NOT, NOT, NOT);
        plan("t 0", burning(1), 0, 0, 1);
        AskedFire x = burning(1);
        for (int i = 0; i < 4; i++) {
            x.card(0, -1);
            x.mend(i, 5, 9);
        }
        for (int t = 1; t <= 4; t++) {
            plan("t " + t, x, t, 0, 1, 0, 1, 2, 3);
        }
    }

    private static void planAny() {
        says("any CARD it has for that day (not USED, the HOUSE stands; whether it LIKES it or not), or none");
        AskedFire x = burning(2);
        x.mend(1, 1, 6);
        x.card(1, 0);
        plan("the only one", x, 1, 1, 2, 0);
        x.card(0, 0);
        plan("the riskier one", x, 1, 1, 4, 1);
        x.mend(0, 3, 9);
        due("it is not liked", x.accepts(0, 0), 0);
        plan("liked or not", x, 1, 1, 4, 1);
        x.mend(1, 6, 1);
        plan("for another day, so the other one", x, 1, 1, 2, 0);
        x.mend(1, 6, -1);
        plan("without a day", x, 1, 1, 4, 1);
        x.mend(0, 7, 1);
        x.pass(1);
        plan("a house that does not stand", x, 1, 1, 4, NOT);
        AskedFire used = asked(1, -1);
        used.pass(0);
        plan("a used one", used, 1, 1, 12, NOT);
        used.card(0, -1);
        plan("one not used", used, 1, 0, 1, 1);
        // By the words "not USED": also if it has got a day since.
        used.mend(1, 6, 20);
        used.mend(0, 6, 1);
        plan("a used one that has a day since", used, 1, 1, 12, NOT);
        due("though it is accepted by its day", used.accepts(1, 0), 0);
    }

    private static void planLikeOnes() {
        says("the CARD of the k-th day (of like ones none first, then the least, day by day; NOT: none)");
        AskedFire x = town(2);
        x.card(1, 0);
        x.card(0, 0);
        x.card(1, 0);
        plan("of like houses the least card", x, 1, 1, 12, 0);
        x.mend(0, 5, 0);
        plan("none first, where nothing burns", x, 1, 0, 1, NOT);
        AskedFire y = asked(1, -1);
        plan("none first, then the card, day by day", y, 2, 1, 12, NOT, 0);
        plan("none, none, the card", y, 3, 23, 144, NOT, NOT, 0);
        y.mend(1, 5, 0);
        plan("none on the wet day", y, 2, 0, 1, 0, NOT);
        AskedFire z = town(2);
        z.card(0, -1);
        z.card(1, -1);
        // Each house once: by whichever order the same; so 0 first.
        plan("the least first", z, 2, 1, 6, 0, 1);
        AskedFire twin = town(1);
        twin.card(0, 1);
        twin.card(0, -1);
        twin.card(0, -1);
        plan("on day 1 the dated one, the least", twin, 2, 0, 1, 1, 0);
        twin.mend(0, 6, 0);
        plan("on day 0 the dated one, then 1", twin, 2, 0, 1, 0, 1);
        plan("three days", twin, 3, 0, 1, 0, 1, 2);
        AskedFire mixed = asked(1, -1);
        mixed.card(0, 0);
        plan("the one without a day is spared for day 1", mixed, 2, 0, 1, 1, 0);
        mixed.mend(1, 6, 1);
        plan("and for day 0", mixed, 2, 0, 1, 0, 1);
    }

    private static void planOnce() {
        says("PLAN: a CARD without a day once in it.");
        AskedFire x = burning(1);
        weather(x, 9, 9);
        x.card(0, -1);
        plan("two days, one card", x, 2, 1, 1, NOT, NOT);
        x.card(0, -1);
        plan("two cards", x, 2, 0, 1, 0, 1);
        says("so that the MEAN of HOUSES BURNT within them is least");
        AskedFire y = burning(2);
        y.mend(1, 1, 6);
        y.card(1, 0);
        y.card(0, -1);
        // 0 burns by 1/2 a day, 1 by 1/4: day 0 for 1, day 1 for 0: 1/2 + 1/4; else 1/2 + 7/16, or worse.
        plan("one goes aside", y, 2, 3, 4, 0, 1);
        AskedFire lost = burning(6);
        weather(lost, 9, 9);
        lost.card(0, 0);
        plan("five are lost on the first day, all by the second", lost, 1, 5, 1, 0);
        plan("so it saves none", lost, 2, 6, 1, NOT, NOT);
        AskedFire full = town(6);
        for (int i = 0; i < 12; i++) {
            full.card(i % 6, -1);
        }
        // The more a house is saved the better, as what is left of it grows by a factor: 6 less
        // (2 * 144 * 121 + 4 * 14641) by 20736, of two houses twice; once for four and twice none is worse.
        fraction("twelve cards, four days", full.plan(4, 0), full.plan(4, 1), 7751, 5184);
    }

    private static void planned() {
        says("The CARD of the k-th day of it (0 .. t less 1). BAD; NOT.");
        for (int t = 1; t <= 4; t++) {
            int days = t;
            within("k, t " + t, 0, t - 1, BAD, v -> asked(1, 0).planned(days, v));
        }
        never("t 0", BAD, v -> asked(1, 0).planned(0, v));
        never("t -1", BAD, v -> asked(1, 0).planned(-1, v));
        never("t 5", BAD, v -> asked(1, 0).planned(5, v));
        AskedFire x = burning(1);
        for (int i = 0; i < 4; i++) {
            x.card(0, -1);
        }
        for (int now = 26; now <= 29; now++) {
            x.mend(0, 7, now);
            for (int k = 0; k < 4; k++) {
                due("NOW " + now + ", k " + k, x.planned(4, k), now + k <= 29 ? k : NOT);
            }
            due("k 4", x.planned(4, 4), BAD);
        }
    }

    private static void ask() {
        says("ASK: for which day (NOW to 29) a HOUSE that stands should have one more CARD so that it is VISITED that day "
            + "by THE LAW and odds of fire are greatest");
        AskedFire x = town(1);
        for (int day = 0; day < 30; day++) {
            x.mend(day, 5, 6);
            x.mend(0, 1, 12);
            due("driest " + day, x.ask(0), day);
            x.mend(day, 5, 5);
        }
        x.mend(10, 5, 9);
        int[] nows = {9, 10, 11, 29};
        int[] days = {10, 10, 11, 29};
        for (int i = 0; i < nows.length; i++) {
            x.mend(0, 7, nows[i]);
            due("NOW " + nows[i], x.ask(0), days[i]);
        }
        says("ASK. BAD; NOT (also: it does not stand).");
        AskedFire y = town(2);
        y.pass(2);
        due("0 stands", y.ask(0), 1);
        due("1 does not", y.ask(1), NOT);
        due("2 is none", y.ask(2), BAD);
    }

    private static void askOfLikeOnes() {
        says("odds of fire are greatest (of like ones the first); NOT: on none, or there are 12 CARDS");
        AskedFire x = town(2);
        due("all alike", x.ask(0), 0);
        // Odds are cut: risk 3 gives 1 by dry 3 to 5, 2 by dry 6 to 8, 3 by dry 9.
        weather(x, 5, 5, 6, 8, 6);
        due("dry 6 and 8 give like odds", x.ask(0), 2);
        x.mend(3, 5, 9);
        due("dry 9 gives more", x.ask(0), 3);
        x.mend(0, 2, 0);
        due("on none: never liked", x.ask(0), NOT);
        x.mend(0, 2, 1);
        due("liked 1", x.ask(0), 3);
        x.card(1, 3);
        due("another is liked more on day 3", x.ask(0), 2);
        x.mend(1, 2, 1);
        due("a like one by a lesser card", x.ask(0), 2);
        x.mend(1, 2, 0);
        due("the other is not liked", x.ask(0), 3);
        AskedFire y = town(1);
        y.mend(0, 1, 0);
        due("odds 0 are odds, too", y.ask(0), 0);
        AskedFire ahead = town(2);
        ahead.mend(1, 2, 9);
        ahead.card(1, -1);
        due("the other's card is used on day 0", ahead.ask(0), 1);
        AskedFire often = town(2);
        often.mend(1, 2, 5);
        often.card(0, 0);
        often.card(0, 1);
        often.card(1, 7);
        often.mend(7, 5, 9);
        due("it is liked less for the days ahead", often.ask(0), 0);
        often.mend(1, 2, 2);
        due("but more than that one", often.ask(0), 7);
        often.mend(1, 2, 3);
        due("as much: the other has the lesser card", often.ask(0), 0);
    }

    private static void askWith12Cards() {
        says("on none, or there are 12 CARDS");
        AskedFire x = town(1);
        for (int i = 0; i < 12; i++) {
            due("with " + i, x.ask(0), 0);
            x.card(0, 20);
            due("asking brings no card", x.count(1), i + 1);
        }
        due("with 12", x.ask(0), NOT);
        due("with 12, no such house", x.ask(1), BAD);
        AskedFire y = town(2);
        for (int i = 0; i < 12; i++) {
            y.card(0, 0);
        }
        due("of another house", y.ask(1), NOT);
        due("even with a card for that day", y.ask(0), NOT);
    }

    private static void askByWhicheverCard() {
        says("ASK: by whichever CARD it is VISITED that day.");
        AskedFire x = town(2);
        x.mend(3, 5, 9);
        x.card(0, 3);
        x.card(1, 3);
        // The new card alone would lose to card 1, which is liked as much; card 0 wins ahead of both.
        due("by card 0", x.ask(0), 3);
        due("the other", x.ask(1), 0);
        AskedFire y = town(2);
        y.mend(0, 5, 9);
        y.card(0, -1);
        due("by one without a day", y.ask(0), 0);
        y.mend(0, 5, 5);
        y.mend(2, 5, 9);
        due("used by then, so by the new one", y.ask(0), 2);
    }

    private static void sweeten() {
        says("SWEETEN (what 0), BEARS (1) on a day. BAD; NOT.");
        within("what", 0, 1, BAD, v -> asked(1, 0).sweeten(0, 0, v));
        for (int now : NOWS) {
            within("day, cake, NOW " + now, now, 29, BAD, v -> at(now, town(1)).sweeten(0, v, 0));
            within("day, feud, NOW " + now, now, 29, BAD, v -> at(now, town(1)).sweeten(0, v, 1));
        }
        AskedFire x = asked(1, 29);
        due("on the last day", x.sweeten(0, 29, 0), 1);
        due("the day ahead", x.sweeten(0, 28, 0), NOT);
        x.pass(1);
        due("it does not stand: cake", x.sweeten(0, 29, 0), NOT);
        due("it does not stand: feud", x.sweeten(0, 29, 1), NOT);
    }

    private static void byLaw(int what, String law, int want) {
        AskedFire x = by(law, asked(1, 4));
        x.mend(0, 2, 7);
        x.mend(0, 3, 6);
        due("by " + law, x.sweeten(0, 4, what), want);
        due("cake as it was", x.of(0, 2), 7);
        due("feud as it was", x.of(0, 3), 6);
        due("no change but two", x.count(3), 2);
    }

    private static void sweetenLeast() {
        says("SWEETEN: the least CAKE (0 .. 9) by which a HOUSE is VISITED on a day, CARDS as they are; NOT.");
        byLaw(0, "1", 0);
        byLaw(0, "c=0", 0);
        byLaw(0, "c+1", 0);
        byLaw(0, "c", 1);
        byLaw(0, "c>7", 8);
        byLaw(0, "c>8", 9);
        byLaw(0, "c=9", 9);
        byLaw(0, "c>9", NOT);
        byLaw(0, "0", NOT);
        byLaw(0, "c=3|c=8", 3);
        byLaw(0, "c<4&c>1", 2);
        AskedFire x = asked(1, 4);
        x.mend(0, 3, 9);
        due("a feud of 9 takes more than 9", x.sweeten(0, 4, 0), NOT);
        x.mend(0, 3, 8);
        due("a feud of 8 takes 9", x.sweeten(0, 4, 0), 9);
    }

    private static void bears() {
        says("BEARS: the greatest FEUD by which it still is; NOT.");
        byLaw(1, "1", 9);
        byLaw(1, "f=9", 9);
        byLaw(1, "f+1", 9);
        byLaw(1, "9-f", 8);
        byLaw(1, "f=0", 0);
        byLaw(1, "1-f", 0);
        byLaw(1, "0-f", NOT);
        byLaw(1, "f>9", NOT);
        byLaw(1, "f=3|f=6", 6);
        AskedFire x = asked(1, 4);
        x.mend(0, 2, 1);
        due("a cake of 1 bears 0", x.sweeten(0, 4, 1), 0);
        x.mend(0, 2, 0);
        due("a cake of 0 bears none", x.sweeten(0, 4, 1), NOT);
    }

    private static void allDaysAnew() {
        says("SWEETEN, BEARS: all days anew.");
        AskedFire x = by("d*c-20", asked(1, -1));
        x.mend(1, 5, 9);
        // On day 0 5 c - 20 must not be above 0 (c to 4), on day 1 9 c - 20 must be (c from 3).
        due("day 1 takes 3", x.sweeten(0, 1, 0), 3);
        due("day 0 takes 5", x.sweeten(0, 0, 0), 5);
        due("day 2 by no cake: 5 and above go on day 0, 3 and 4 on day 1", x.sweeten(0, 2, 0), NOT);
        AskedFire y = by("d-f", asked(1, -1));
        y.mend(1, 5, 9);
        // On day 0 5 - f, on day 1 9 - f: from 5 to 8 it goes on day 1.
        due("day 0 bears 4", y.sweeten(0, 0, 1), 4);
        due("day 1 bears 8", y.sweeten(0, 1, 1), 8);
    }

    private static void noFires() {
        says("IN THOUGHT, from NOW on, no fires");
        AskedFire x = burning(1);
        weather(x, 9, 9, 9);
        x.card(0, 2);
        due("it burns surely on day 0, and yet", x.accepts(2, 1), 0);
        due("visits", x.visits(0, 29), 1);
        due("first", x.first(0), 0);
        due("stands", x.of(0, 8), 1);
    }
}
