/** Each promise of the document by examples, the edges it names, and wrong inputs; answers worked out by hand. */
public final class PromiseTest extends Bench {
    private static int wrong = 0;

    private static void due(int promise, String what, long got, long want) {
        if (got != want) {
            wrong++;
            System.out.println("promise " + promise + ": " + what + " answered " + got + ", due is " + want);
        }
    }

    public static void main(String[] args) {
        newObject();
        house();
        card();
        cards();
        mend();
        of();
        feed();
        law();
        lawWorth();
        lawDepth();
        likes();
        accepts();
        visits();
        first();
        odds();
        burns();
        mean();
        plan();
        planned();
        ask();
        sweeten();
        evening();
        belief();
        clash();
        without();
        match();
        judge();
        read();
        drawn();
        pass();
        build();
        led();
        imageAndBack();
        undoAndRedo();
        body();
        act();
        trace();
        keep();
        row();
        putAndElement();
        shift();
        taken();
        count();
        System.out.println(wrong == 0 ? "all promises hold" : wrong + " answers are not as due");
        if (wrong != 0) {
            System.exit(1);
        }
    }

    private static void newObject() {
        AskedFire x = new AskedFire();
        for (int what = 0; what <= 5; what++) {
            due(1, "count(" + what + ")", x.count(what), 0);
        }
        for (int day = 0; day < 30; day++) {
            due(1, "of(" + day + ", 5)", x.of(day, 5), 5);
        }
        due(1, "of(0, 7)", x.of(0, 7), 0);
        due(1, "led(0)", x.led(0), 0);
        due(1, "element(0, 0)", x.element(0, 0), NONE);
        due(1, "VOID", AskedFire.VOID, VOID);
    }

    private static void house() {
        AskedFire x = new AskedFire();
        due(2, "house(-1)", x.house(-1), -1);
        due(2, "house(144)", x.house(144), -1);
        due(2, "house(MAX)", x.house(Integer.MAX_VALUE), -1);
        due(2, "count after BAD", x.count(0), 0);
        for (int i = 0; i < 6; i++) {
            due(2, "house", x.house(i == 5 ? 143 : 7), i);
        }
        due(2, "seventh", x.house(0), -3);
        due(2, "seventh, wrong too", x.house(144), -1);
        due(2, "cell", x.of(5, 0), 143);
        due(2, "risk", x.of(5, 1), 3);
        due(2, "cake", x.of(5, 2), 5);
        due(2, "feud", x.of(5, 3), 0);
        due(2, "wood", x.of(5, 4), 3);
        due(2, "stands", x.of(5, 8), 1);
        due(2, "visited", x.led(15), 0);
    }

    private static void card() {
        AskedFire x = town(2);
        due(3, "no house", x.card(2, 0), -1);
        due(3, "house -1", x.card(-1, 0), -1);
        due(3, "day 30", x.card(0, 30), -1);
        due(3, "day -2", x.card(0, -2), -1);
        for (int i = 0; i < 12; i++) {
            due(3, "card", x.card(i % 2, i == 0 ? -1 : i == 1 ? 29 : 4), i);
        }
        due(3, "thirteenth", x.card(0, 0), -3);
        due(3, "thirteenth, wrong too", x.card(0, 30), -1);
        due(3, "day of 0", x.of(0, 6), -1);
        due(3, "day of 1", x.of(1, 6), 29);
        due(3, "house of 11", x.of(11, 9), 1);
        due(3, "used", x.of(11, 10), 0);
        AskedFire y = town(1);
        y.mend(0, 7, 9);
        due(3, "for a day gone by", y.card(0, 3), 0);
    }

    private static void cards() {
        AskedFire x = town(2);
        bytes(x, 0, 0, 5, 1, -1, 1, 29, 0);
        due(4, "shelf -1", x.cards(-1, 0, 1), -1);
        due(4, "shelf 6", x.cards(6, 0, 1), -1);
        due(4, "n 0", x.cards(0, 0, 0), -1);
        due(4, "n 13", x.cards(0, 0, 13), -1);
        due(4, "nothing there", x.cards(1, 0, 1), 0);
        x.body(0);
        x.keep(1, 0);
        due(4, "a body", x.cards(1, 0, 1), -12);
        x.row(1, 2, 4);
        due(4, "ints", x.cards(1, 0, 1), -12);
        due(4, "ints, i below 0", x.cards(1, -1, 1), -12);
        due(4, "i below 0", x.cards(0, -1, 1), 0);
        due(4, "i beyond", x.cards(0, 7, 1), 0);
        due(4, "i the greatest", x.cards(0, Integer.MAX_VALUE, 1), 0);
        due(4, "none came", x.count(1), 0);
        due(4, "one", x.cards(0, 0, 1), 1);
        due(4, "till the row ends within a two", x.cards(0, 2, 12), 2);
        due(4, "house 0", x.of(0, 9), 0);
        due(4, "day 5", x.of(0, 6), 5);
        due(4, "day -1", x.of(1, 6), -1);
        due(4, "day 29", x.of(2, 6), 29);
        due(4, "from an odd place", x.cards(0, 3, 2), 0);
        bytes(x, 2, 0, 1, 0, 30, 0, 2);
        due(4, "day 30 ends it", x.cards(2, 0, 3), 1);
        bytes(x, 2, 0, 1, 2, 1, 0, 2);
        due(4, "house 2 ends it", x.cards(2, 0, 3), 1);
        x.row(3, 0, 24);
        due(4, "till full", x.cards(3, 0, 12), 7);
        due(4, "full", x.cards(3, 0, 1), 0);
        due(4, "count", x.count(1), 12);
    }

    private static void mend() {
        AskedFire x = town(1);
        x.card(0, 4);
        int[] least = {0, 0, 0, 0, 1, 0, -1, 0};
        int[] most = {143, 12, 9, 9, 9, 9, 29, 29};
        for (int what = 0; what < 8; what++) {
            due(5, what + " below", x.mend(0, what, least[what] - 1), VOID);
            due(5, what + " above", x.mend(0, what, most[what] + 1), VOID);
            due(5, what + " number -1", x.mend(-1, what, 1), VOID);
            due(5, what + " number beyond", x.mend(what == 5 ? 30 : 1, what, 1), VOID);
            int was = x.of(0, what);
            due(5, what + " least", x.mend(0, what, least[what]), was);
            due(5, what + " most", x.mend(0, what, most[what]), least[what]);
            due(5, what + " stays", x.of(0, what), most[what]);
        }
        due(5, "what 8", x.mend(0, 8, 1), VOID);
        due(5, "what -1", x.mend(0, -1, 1), VOID);
        due(5, "last day", x.mend(29, 5, 0), 5);
    }

    private static void of() {
        AskedFire x = town(1);
        x.card(0, -1);
        due(6, "what 11", x.of(0, 11), VOID);
        due(6, "what -1", x.of(0, -1), VOID);
        due(6, "house beyond", x.of(1, 8), VOID);
        due(6, "card beyond", x.of(1, 9), VOID);
        due(6, "card beyond, used", x.of(1, 10), VOID);
        due(6, "card -1", x.of(-1, 9), VOID);
        due(6, "now of 1", x.of(1, 7), VOID);
        due(6, "not used", x.of(0, 10), 0);
        x.pass(0);
        due(6, "used", x.of(0, 10), 1);
        x.pass(1);
        due(6, "stands no more", x.of(0, 8), 0);
        due(6, "now", x.of(0, 7), 2);
    }

    private static void feed() {
        AskedFire x = new AskedFire();
        due(7, "-1", x.feed(-1), -1);
        due(7, "256", x.feed(256), -1);
        for (int i = 1; i <= 120; i++) {
            due(7, "feed", x.feed(i % 2 == 0 ? 0 : 255), i);
        }
        due(7, "full", x.feed(1), -3);
        due(7, "full, wrong too", x.feed(256), -1);
        due(7, "count", x.count(2), 120);
    }

    private static void law() {
        AskedFire x = town(1);
        x.card(0, -1);
        due(8, "empty", x.law(), -100);
        Object[][] faults = {
            {"c", 1}, {"c;", -102}, {";c", -100}, {"c?", -102}, {"c?f", 1}, {"c?f?r", -103}, {"c?f;d", 1},
            {"c;f?r;d", 1}, {"?c", -100}, {"12345", -104}, {"1234", 1}, {"c1", -101}, {"1c", -101}, {"cc", -101},
            {"x", -100}, {"c ", -101}, {"C", -100}, {"c<f", 1}, {"c<f<d", -103}, {"c<f=d", -103},
            {"c<f&d>r", 1}, {"c<(f<d)", 1}, {"(c<f)<d", 1}, {"c<f+d*r<1", -107}, {"(c", -102}, {"(c))", -103},
            {"c)", -101}, {"(c?f)", -102}, {"(c;f)", -102}, {"()", -101}, {"c+", -102}, {"+c", -100},
            {"c--f", 1}, {"c-!f", 1}, {"c!f", -101}, {"!c", 1}, {"c**f", -102}, {"c(f)", -101}, {"(c)f", -103},
            {"(c)1", -103}, {"1)", -101}, {"c|f|d&r&h=n", 1}, {"c||f", -102}, {"-1-1", 1}, {"0000", 1},
            {"1 ", -101}, {"12?34;56?78", 1}, {"c;?", -102}, {"1(", -101}, {"c<", -102}, {"!", -101},
        };
        for (Object[] fault : faults) {
            due(8, (String) fault[0], law(x, (String) fault[0]), (Integer) fault[1]);
            due(8, "tape behind " + fault[0], x.count(2), 0);
        }
        law(x, "7");
        law(x, "8+");
        due(8, "a fault leaves the law", x.likes(0, 0), 7);
        x.feed(128);
        due(8, "a byte above 127", x.law(), -100);
        for (int i = 0; i < 119; i++) {
            x.feed(i % 2 == 0 ? '1' : '+');
        }
        due(8, "119 bytes", x.law(), 1);
        due(8, "their sum", x.likes(0, 0), 60);
        for (int i = 0; i < 120; i++) {
            x.feed(i % 2 == 0 ? '1' : '+');
        }
        due(8, "120 bytes, one lacks", x.law(), -220);
    }

    private static void lawWorth() {
        AskedFire x = town(2);
        x.card(1, -1);
        x.mend(1, 1, 12);
        x.mend(1, 2, 9);
        x.mend(1, 3, 4);
        x.mend(0, 5, 7);
        Object[][] worths = {
            {"c", 9}, {"f", 4}, {"d", 7}, {"r", 12}, {"h", 1}, {"n", 0}, {"c-f-d", -2}, {"c-(f-d)", 12},
            {"c+f*d", 37}, {"(c+f)*2", 26}, {"7/2", 3}, {"-7/2", -3}, {"-7%3", -1}, {"7%-3", 1}, {"7/0", 0}, {"7%0", 0},
            {"7/n+5", 5}, {"!c", 0}, {"!n", 1}, {"!!c", 1}, {"-c", -9}, {"--c", 9}, {"-c*2", -18}, {"!c+1", 1},
            {"-!n", -1}, {"c|n", 1}, {"n|n", 0}, {"c&f", 1}, {"c&n", 0}, {"c|f&n", 1}, {"n&c|f", 1}, {"2|n", 1},
            {"2&3", 1}, {"c<f", 0}, {"f<c", 1}, {"c>f", 1}, {"c=9", 1}, {"c=8", 0}, {"1<2+3", 1}, {"1+(1<2)", 2},
            {"3>2&2>1", 1}, {"2*3%4", 2}, {"8/4*2", 4}, {"8/(4*2)", 1}, {"100", 99}, {"-100", -99}, {"9999", 99},
            {"-99", -99}, {"99", 99}, {"c?5", 5}, {"n?5", 0}, {"n?5;6", 6}, {"c?5;6", 5}, {"n?5;n?6;7", 7},
            {"n?5;c?6;7", 6}, {"5;6", 5}, {"0;6", 0}, {"c>8?n;6", 0}, {"12?34;56", 34}, {"0?9;-3?8", 8},
            {"9999*9999*9999%100", 9999 * 9999 * 9999 % 100},
            {"0-2147*1000*1000-483*1000-648-1>0", 1}, {"(0-2147*1000*1000-483*1000-648)/-1<0", 1},
            {"(1+2)*(3+4)", 21}, {"-(1+2)*3", -9}, {"!(c<f)", 1}, {"10-2-3", 5}, {"12-3+1", 10}, {"-12", -12},
            {"!12+3", 3}, {"1|0&0", 1}, {"(1|0)&0", 0},
        };
        for (Object[] worth : worths) {
            due(8, "law " + worth[0], law(x, (String) worth[0]), 1);
            due(9, "likes by " + worth[0], x.likes(0, 0), (Integer) worth[1]);
        }
        law(x, "9-n*4");
        x.pass(0);
        due(9, "n in deed", x.likes(0, 1), 5);
        x.card(1, 1);
        due(9, "n in thought", x.likes(0, 2), 1);
    }

    private static void lawDepth() {
        AskedFire x = town(1);
        x.card(0, -1);
        due(8, "6 brackets", law(x, "((((((c))))))"), 1);
        due(8, "7 brackets", law(x, "(((((((c)))))))"), -106);
        due(8, "6 of !", law(x, "!!!!!!c"), 1);
        due(8, "7 of -", law(x, "-------c"), -106);
        due(8, "mixed 6", law(x, "-(!(-(c)))"), 1);
        due(8, "mixed 7", law(x, "-(!(-(!c)))"), -106);
        due(8, "closed ones do not count", law(x, "((((((c))))))+((((((c))))))+!!!!!!c"), 1);
        due(8, "a - between does not count", law(x, "((((((c-f-d))))))"), 1);
        due(8, "! within 6", law(x, "((((((c-!f))))))"), -108);
        due(8, "- within 5 and one ! ahead", law(x, "!(((((c))))))"), -112);
        due(8, "a name closes a !", law(x, "(((((!c+!f-!d)))))"), 1);
        due(8, "a number closes a -", law(x, "(((((-12+-34-(5))))))"), 1);
        due(8, "brackets lack", law(x, "((((((c)))))"), -112);
    }

    private static void likes() {
        AskedFire x = town(2);
        x.card(0, 3);
        x.mend(0, 2, 9);
        x.mend(0, 3, 2);
        due(9, "card 1", x.likes(1, 0), VOID);
        due(9, "card -1", x.likes(-1, 0), VOID);
        due(9, "day 30", x.likes(0, 30), VOID);
        due(9, "day -1", x.likes(0, -1), VOID);
        due(9, "c less f", x.likes(0, 0), 7);
        due(9, "less n behind its day", x.likes(0, 4), 6);
        x.mend(0, 7, 4);
        due(9, "ahead of NOW", x.likes(0, 3), VOID);
        due(9, "its day is gone", x.likes(0, 4), 7);
        x.pass(1);
        due(9, "it stands no more", x.likes(0, 29), 7);
    }

    private static void accepts() {
        AskedFire x = town(3);
        due(10, "what 2", x.accepts(0, 2), -1);
        due(10, "what -1", x.accepts(0, -1), -1);
        due(10, "day 30", x.accepts(30, 0), -1);
        due(10, "nobody", x.accepts(0, 0), -2);
        x.card(2, -1);
        x.card(1, 0);
        x.card(1, 0);
        due(10, "of like ones the least", x.accepts(0, 0), 0);
        x.mend(1, 2, 6);
        due(10, "the best liked", x.accepts(0, 0), 1);
        due(10, "its house", x.accepts(0, 1), 1);
        due(10, "without a day, later", x.accepts(1, 1), 2);
        due(10, "used by then", x.accepts(2, 0), -2);
        due(10, "nothing is used by thoughts", x.of(0, 10), 0);
        x.mend(1, 3, 6);
        due(10, "liked 0", x.accepts(0, 0), 0);
        x.mend(2, 2, 0);
        due(10, "liked 0, both", x.accepts(0, 0), -2);
        x.mend(1, 3, 0);
        x.mend(2, 2, 5);
        x.pass(4);
        due(10, "a house that is burnt", x.accepts(1, 0), -2);
        due(10, "ahead of NOW", x.accepts(0, 0), -1);
        AskedFire y = town(1);
        y.card(0, -1);
        y.pass(0);
        y.mend(0, 6, 5);
        due(10, "a used one that has a day now", y.accepts(5, 0), 0);
        y.mend(0, 6, -1);
        due(10, "a used one without a day", y.accepts(5, 0), -2);
    }

    private static void visits() {
        AskedFire x = town(2);
        x.card(0, 2);
        x.card(0, -1);
        x.card(1, 2);
        x.card(0, 29);
        due(11, "house 2", x.visits(2, 0), -1);
        due(11, "house -1", x.visits(-1, 0), -1);
        due(11, "day 30", x.visits(0, 30), -1);
        due(11, "day -1", x.visits(0, -1), -1);
        due(11, "to day 0", x.visits(0, 0), 1);
        due(11, "to day 2", x.visits(0, 2), 1);
        due(11, "the other", x.visits(1, 2), 1);
        due(11, "to day 28", x.visits(0, 28), 1);
        due(11, "to day 29", x.visits(0, 29), 2);
        x.pass(0);
        due(11, "from NOW on alone", x.visits(0, 29), 1);
        due(11, "ahead of NOW", x.visits(0, 0), -1);
        x.mend(0, 7, 3);
        due(11, "day 2 is gone", x.visits(1, 29), 0);
    }

    private static void first() {
        AskedFire x = town(1);
        due(12, "what 2", x.first(2), -1);
        due(12, "what -1", x.first(-1), -1);
        due(12, "at once", x.first(0), 0);
        x.card(0, 0);
        x.card(0, -1);
        due(12, "day 2", x.first(0), 2);
        x.mend(0, 7, 28);
        due(12, "28 by the card without a day", x.first(0), 29);
        x.card(0, 28);
        due(12, "of like ones the one without a day goes first", x.first(0), 29);
        x.card(0, 29);
        due(12, "none by 29", x.first(0), -2);
        due(12, "driest of like ones", x.first(1), 28);
        x.mend(0, 7, 0);
        x.mend(4, 5, 9);
        x.mend(9, 5, 9);
        due(12, "driest", x.first(1), 4);
        x.mend(0, 7, 5);
        due(12, "driest from NOW on", x.first(1), 9);
        x.mend(9, 5, 0);
        x.mend(29, 5, 6);
        due(12, "driest at the end", x.first(1), 29);
    }

    private static void odds() {
        AskedFire x = town(1);
        due(13, "house 1", x.odds(1, 0), -1);
        due(13, "house -1", x.odds(-1, 0), -1);
        due(13, "day 30", x.odds(0, 30), -1);
        due(13, "day -1", x.odds(0, -1), -1);
        due(13, "cut", x.odds(0, 0), 1);
        x.mend(0, 1, 12);
        due(13, "12 by 5", x.odds(0, 0), 6);
        x.mend(0, 5, 9);
        due(13, "12 by 9", x.odds(0, 0), 12);
        x.mend(0, 5, 0);
        due(13, "wet", x.odds(0, 0), 0);
        x.pass(1);
        due(13, "it stands no more", x.odds(0, 1), 6);
        due(13, "ahead of NOW", x.odds(0, 0), 0);
    }

    private static void burns() {
        AskedFire x = town(2);
        due(14, "house 2", x.burns(2, 1, 0), NONE);
        due(14, "t -1", x.burns(0, -1, 0), NONE);
        due(14, "t 9", x.burns(0, 9, 0), NONE);
        due(14, "part 2", x.burns(0, 1, 2), NONE);
        due(14, "part -1", x.burns(0, 1, -1), NONE);
        due(14, "t 0 above", x.burns(0, 0, 0), 0);
        due(14, "t 0 below", x.burns(0, 0, 1), 1);
        due(14, "1 of 12", x.burns(0, 1, 1), 12);
        due(14, "two days above", x.burns(0, 2, 0), 23);
        due(14, "two days below", x.burns(0, 2, 1), 144);
        due(14, "eight days above", x.burns(0, 8, 0), 429981696L - 214358881L);
        due(14, "eight days below", x.burns(0, 8, 1), 429981696L);
        x.card(0, 1);
        due(14, "visited on day 1", x.burns(0, 2, 1), 12);
        x.mend(0, 1, 6);
        due(14, "3 of 12, lowest terms", x.burns(0, 1, 1), 4);
        x.mend(0, 1, 12);
        x.mend(0, 5, 9);
        due(14, "certain above", x.burns(0, 3, 0), 1);
        due(14, "certain below", x.burns(0, 3, 1), 1);
        x.pass(2);
        due(14, "burnt above", x.burns(1, 0, 0), 1);
        due(14, "burnt below", x.burns(1, 8, 1), 1);
        due(14, "burnt, t wrong", x.burns(1, 9, 1), NONE);
        x.mend(0, 7, 29);
        due(14, "to 29 at most above", x.burns(0, 8, 0), 1);
        due(14, "to 29 at most below", x.burns(0, 8, 1), 2);
    }

    private static void mean() {
        AskedFire x = town(3);
        due(15, "t 5", x.mean(5, 0), NONE);
        due(15, "t -1", x.mean(-1, 0), NONE);
        due(15, "part 2", x.mean(1, 2), NONE);
        due(15, "t 0 above", x.mean(0, 0), 0);
        due(15, "t 0 below", x.mean(0, 1), 1);
        due(15, "three of 1 by 12 above", x.mean(1, 0), 1);
        due(15, "three of 1 by 12 below", x.mean(1, 1), 4);
        x.card(1, 0);
        due(15, "one visited", x.mean(1, 1), 6);
        due(15, "two days above", x.mean(2, 0), (23 + 12 + 23) / 2);
        due(15, "two days below", x.mean(2, 1), 72);
        x.mend(0, 1, 12);
        x.mend(0, 5, 9);
        x.mend(2, 1, 12);
        due(15, "above one", x.mean(1, 0), 2);
        x.pass(1);
        due(15, "one burnt, above", x.mean(1, 0), 7);
        due(15, "one burnt, below", x.mean(1, 1), 12);
    }

    private static void plan() {
        AskedFire x = town(2);
        x.mend(0, 1, 12);
        x.mend(1, 1, 6);
        due(16, "t 5", x.plan(5, 0), NONE);
        due(16, "t -1", x.plan(-1, 0), NONE);
        due(16, "part 2", x.plan(1, 2), NONE);
        due(16, "t 0 above", x.plan(0, 0), 0);
        due(16, "t 0 below", x.plan(0, 1), 1);
        due(16, "no cards above", x.plan(1, 0), 3);
        due(16, "no cards below", x.plan(1, 1), 4);
        x.card(1, 0);
        due(16, "one card", x.plan(1, 1), 2);
        x.card(0, -1);
        x.mend(0, 2, 0);
        x.mend(1, 2, 0);
        due(16, "the riskier one, liked or not, above", x.plan(1, 0), 1);
        due(16, "the riskier one, liked or not, below", x.plan(1, 1), 4);
        // Day 0: 1 by its card, day 1: 0 by the one without a day: 1/2 + 1/4; or 0 first: 1/2 + 7/16.
        due(16, "two days above", x.plan(2, 0), 3);
        due(16, "two days below", x.plan(2, 1), 4);
        x.pass(1);
        due(16, "burnt ones are none above", x.plan(1, 0), 1);
        due(16, "burnt ones are none below", x.plan(1, 1), 4);
        x.mend(0, 7, 29);
        due(16, "to 29 at most", x.plan(4, 1), 4);
        AskedFire full = town(6);
        for (int i = 0; i < 12; i++) {
            full.card(i % 6, -1);
        }
        // Two houses twice: 6 less (2 * 144 * 121 + 4 * 14641) by 20736.
        due(16, "twelve cards, four days, above", full.plan(4, 0), 7751);
        due(16, "twelve cards, four days, below", full.plan(4, 1), 5184);
    }

    private static void planned() {
        AskedFire x = town(2);
        x.mend(0, 1, 12);
        x.mend(1, 1, 6);
        x.card(1, 0);
        x.card(0, -1);
        x.card(0, -1);
        due(17, "t 5", x.planned(5, 0), -1);
        due(17, "t -1", x.planned(-1, 0), -1);
        due(17, "t 0", x.planned(0, 0), -1);
        due(17, "k 2 of 2", x.planned(2, 2), -1);
        due(17, "k -1", x.planned(2, -1), -1);
        due(17, "one day", x.planned(1, 0), 1);
        due(17, "of like ones the least first", x.planned(2, 0), 1);
        due(17, "then the other", x.planned(2, 1), 2);
        x.mend(0, 7, 29);
        due(17, "beyond day 29, one was there", x.planned(2, 1), -2);
        x.mend(0, 7, 0);
        x.mend(1, 5, 0);
        due(17, "none, where nothing may burn", x.planned(2, 1), -2);
        x.mend(0, 5, 0);
        due(17, "none first", x.planned(1, 0), -2);
        x.mend(0, 7, 29);
        due(17, "day 29", x.planned(4, 0), 1);
        due(17, "beyond day 29", x.planned(4, 1), -2);
        AskedFire y = town(1);
        y.card(0, -1);
        due(17, "without a day, once: none first", y.planned(3, 0), -2);
        due(17, "without a day, once: the last", y.planned(3, 2), 0);
        y.pass(0);
        due(17, "a used one", y.planned(1, 0), -2);
    }

    private static void ask() {
        AskedFire x = town(2);
        due(18, "house 2", x.ask(2), -1);
        due(18, "house -1", x.ask(-1), -1);
        due(18, "of like ones the first", x.ask(0), 0);
        x.mend(7, 5, 9);
        x.mend(9, 5, 9);
        due(18, "the driest", x.ask(0), 7);
        x.card(1, 7);
        due(18, "a like one ahead of it by number", x.ask(0), 9);
        x.mend(0, 2, 6);
        due(18, "liked more", x.ask(0), 7);
        x.mend(1, 2, 9);
        x.card(0, 7);
        due(18, "a card it has does not help", x.ask(0), 9);
        x.mend(1, 2, 1);
        due(18, "by a card it has", x.ask(0), 7);
        x.mend(0, 7, 8);
        due(18, "from NOW on", x.ask(0), 9);
        x.mend(0, 2, 0);
        due(18, "never liked", x.ask(0), -2);
        due(18, "no card came", x.count(1), 2);
        x.mend(0, 2, 5);
        x.mend(0, 7, 29);
        due(18, "on the last day", x.ask(0), 29);
        x.mend(0, 7, 8);
        x.pass(2);
        due(18, "it does not stand", x.ask(1), -2);
        AskedFire y = town(1);
        for (int i = 0; i < 12; i++) {
            due(18, "with " + i + " cards", y.ask(0), 0);
            y.card(0, 20);
        }
        due(18, "with 12", y.ask(0), -2);
    }

    private static void sweeten() {
        AskedFire x = town(2);
        due(19, "house 2", x.sweeten(2, 0, 0), -1);
        due(19, "house -1", x.sweeten(-1, 0, 0), -1);
        due(19, "day 30", x.sweeten(0, 30, 0), -1);
        due(19, "what 2", x.sweeten(0, 0, 2), -1);
        due(19, "what -1", x.sweeten(0, 0, -1), -1);
        due(19, "no card", x.sweeten(0, 0, 0), -2);
        due(19, "no card, feud", x.sweeten(0, 0, 1), -2);
        x.card(0, 3);
        x.card(1, 3);
        due(19, "a like one behind it", x.sweeten(0, 3, 0), 5);
        due(19, "a like one ahead of it", x.sweeten(1, 3, 0), 6);
        due(19, "no feud", x.sweeten(0, 3, 1), 0);
        due(19, "none at all", x.sweeten(1, 3, 1), -2);
        due(19, "cake as it was", x.of(0, 2), 5);
        due(19, "feud as it was", x.of(0, 3), 0);
        x.mend(0, 2, 9);
        due(19, "feud 4 is borne", x.sweeten(0, 3, 1), 4);
        due(19, "no change to undo but one", x.count(3), 1);
        AskedFire y = town(1);
        y.card(0, -1);
        due(19, "used on day 0 by any cake, so never on day 1", y.sweeten(0, 1, 0), -2);
        law(y, "d*c-20");
        y.mend(1, 5, 9);
        // Day 0: 5 c - 20 must not be above 0, day 1: 9 c - 20 must be: c 3 or 4.
        due(19, "all days anew", y.sweeten(0, 1, 0), 3);
        law(y, "d>5&c<4");
        due(19, "cake 0", y.sweeten(0, 1, 0), 0);
        law(y, "5-f*d/5");
        y.mend(1, 5, 1);
        // Day 0: 5 - f must not be above 0; day 1: 5 - f/5.
        due(19, "all days anew, feud", y.sweeten(0, 1, 1), 9);
        y.mend(0, 7, 1);
        due(19, "ahead of NOW", y.sweeten(0, 0, 0), -1);
    }

    private static void evening() {
        AskedFire x = new AskedFire();
        x.house(0);
        x.house(5);
        x.house(12 * 11 + 11);
        x.house(5);
        due(20, "set 16", x.evening(16, 0), -1);
        due(20, "set -1", x.evening(-1, 0), -1);
        due(20, "k -3", x.evening(1, -3), -1);
        due(20, "none lost", x.evening(0, -1), 0);
        due(20, "none sum", x.evening(0, -2), 0);
        due(20, "none first", x.evening(0, 0), -2);
        due(20, "k the greatest", x.evening(1, Integer.MAX_VALUE), -2);
        due(20, "at the club's house", x.evening(1, -2), 0);
        due(20, "5 cells are 2 hours", x.evening(2, -2), 2);
        due(20, "22 cells are 6 hours", x.evening(4, -2), 6);
        due(20, "6 hours, wood 3", x.evening(4, -1), 1);
        x.mend(2, 4, 6);
        due(20, "6 hours, wood 6", x.evening(4, -1), 0);
        due(20, "same cell, an hour's stay", x.evening(10, -2), 2 + 3);
        due(20, "none is late", x.evening(10, -1), 0);
        // 0 at 0, 1 at 1 + 2, 3 at 4 (late), 2 at 5 + 5 (late): no order loses fewer.
        due(20, "all: lost", x.evening(15, -1), 2);
        due(20, "all: first", x.evening(15, 0), 0);
        due(20, "all: second", x.evening(15, 1), 1);
        due(20, "all: third, of like ones by numbers", x.evening(15, 2), 2);
        due(20, "all: fourth", x.evening(15, 3), 3);
        due(20, "all: fifth", x.evening(15, 4), -2);
        due(20, "all: sum with lost ones", x.evening(15, -2), 0 + 3 + (4 + 5) + (10 + 5));
        x.mend(0, 4, 9);
        x.mend(3, 4, 2);
        due(20, "3 ahead of 0 and 1", x.evening(11, 0), 3);
        due(20, "then 0 would make 1 late", x.evening(11, 1), 1);
        due(20, "0 last", x.evening(11, 2), 0);
        x.house(143);
        x.house(142);
        for (int house = 0; house < 6; house++) {
            x.mend(house, 0, 143 - house);
            x.mend(house, 4, 1);
        }
        due(20, "all six lost", x.evening(63, -1), 6);
        due(20, "all six lost, by numbers", x.evening(63, 5), 5);
        x.pass(15);
        due(20, "of houses that do not stand", x.evening(15, 4), -2);
    }

    private static void belief() {
        AskedFire x = town(1);
        x.mend(0, 1, 12);
        due(21, "nothing there", x.belief(0, 0, 6, 0), NONE);
        x.row(0, 1, 2);
        due(21, "shorts", x.belief(0, 0, 6, 0), NONE);
        bytes(x, 0, 3);
        due(21, "shelf 6", x.belief(6, 0, 6, 0), NONE);
        due(21, "shelf -1", x.belief(-1, 0, 6, 0), NONE);
        due(21, "house 1", x.belief(0, 1, 6, 0), NONE);
        due(21, "x 13", x.belief(0, 0, 13, 0), NONE);
        due(21, "x -1", x.belief(0, 0, -1, 0), NONE);
        due(21, "part 2", x.belief(0, 0, 6, 2), NONE);
        // odds 6: 1 * 12 against 12 * 6.
        due(21, "burned when visited, above", x.belief(0, 0, 12, 0), 1);
        due(21, "burned when visited, below", x.belief(0, 0, 12, 1), 7);
        bytes(x, 0, 2);
        // 1 * 3 against 12 * 6.
        due(21, "visited and whole, above", x.belief(0, 0, 9, 0), 1);
        due(21, "visited and whole, below", x.belief(0, 0, 9, 1), 25);
        bytes(x, 0, 0);
        // 1 * 12 against 12 * 6.
        due(21, "not visited and whole", x.belief(0, 0, 9, 1), 7);
        bytes(x, 0, 1);
        due(21, "burned, not visited, above", x.belief(0, 0, 9, 0), 0);
        due(21, "burned, not visited, below", x.belief(0, 0, 9, 1), 1);
        bytes(x, 0, 3, 4, 3);
        due(21, "it ends with 4", x.belief(0, 0, 12, 1), 7);
        bytes(x, 0, 3, -1, 3);
        due(21, "it ends with -1", x.belief(0, 0, 12, 1), 7);
        bytes(x, 0);
        due(21, "empty above", x.belief(0, 0, 12, 0), 1);
        due(21, "empty below", x.belief(0, 0, 12, 1), 13);
        bytes(x, 0, 3, 3, 3, 3, 3, 3, 3, 3, 3, 3, 3, 3);
        // 2 ^ 12 against 12.
        due(21, "twelve days above", x.belief(0, 0, 12, 0), 1024);
        due(21, "twelve days below", x.belief(0, 0, 12, 1), 1027);
        bytes(x, 0, 3, 3, 3, 3, 3, 3, 3, 3, 3, 3, 3, 3, 2);
        due(21, "a thirteenth does not count", x.belief(0, 0, 12, 0), 1024);
        x.mend(0, 7, 29);
        due(21, "to 29", x.belief(0, 0, 12, 1), 7);
        x.mend(29, 5, 0);
        due(21, "it can't burn else", x.belief(0, 0, 1, 0), 1);
        due(21, "neither can be, above", x.belief(0, 0, 0, 0), -2);
        due(21, "neither can be, below", x.belief(0, 0, 0, 1), 1);
    }

    private static void clash() {
        AskedFire x = town(3);
        due(22, "what 3", x.lists(3), -1);
        due(22, "what -1", x.lists(-1), -1);
        due(22, "none", x.lists(0), 0);
        x.card(0, 0);
        x.card(0, 0);
        due(22, "one house twice", x.lists(0), 0);
        x.card(1, -1);
        due(22, "without a day", x.lists(0), 0);
        x.card(1, 0);
        x.card(1, 29);
        x.card(2, 29);
        due(22, "days 0 and 29", x.lists(0), 1 | 1 << 29);
        x.mend(0, 7, 5);
        due(22, "days ahead of NOW, too", x.lists(0), 1 | 1 << 29);
        x.pass(4);
        due(22, "of houses that stand", x.lists(0), 1);
    }

    private static void without() {
        AskedFire x = town(4);
        due(22, "all", x.lists(1), 15);
        x.card(0, 2);
        x.card(1, -1);
        x.card(2, 29);
        due(22, "one", x.lists(1), 8);
        x.mend(2, 2, 0);
        due(22, "liked or not", x.lists(1), 8);
        x.mend(0, 7, 2);
        due(22, "on its day still", x.lists(1), 8);
        x.mend(0, 7, 3);
        due(22, "behind its day", x.lists(1), 9);
        x.pass(0);
        due(22, "used", x.lists(1), 11);
        x.pass(8);
        due(22, "burnt", x.lists(1), 3);
    }

    private static void match() {
        AskedFire x = town(4);
        due(22, "none", x.lists(2), 0);
        x.card(0, 3);
        x.card(1, 3);
        due(22, "two on one day", x.lists(2), 1);
        x.card(1, 3);
        x.card(0, 4);
        due(22, "one goes aside", x.lists(2), 2);
        x.card(2, 4);
        due(22, "three on two days", x.lists(2), 2);
        x.card(3, -1);
        due(22, "one without a day", x.lists(2), 3);
        x.mend(3, 2, 0);
        due(22, "liked or not", x.lists(2), 3);
        x.card(1, -1);
        due(22, "all", x.lists(2), 4);
        x.mend(0, 7, 4);
        due(22, "from NOW on", x.lists(2), 3);
        x.mend(0, 7, 29);
        due(22, "one day left", x.lists(2), 1);
        x.mend(0, 7, 0);
        x.pass(14);
        due(22, "of those that stand", x.lists(2), 2);
    }

    private static void judge() {
        AskedFire x = town(2);
        x.card(1, -1);
        x.card(0, 1);
        due(23, "shelf 6", x.judge(6), -1);
        due(23, "shelf -1", x.judge(-1), -1);
        due(23, "nothing there", x.judge(0), -11);
        x.body(0);
        x.keep(0, 0);
        due(23, "a body", x.judge(0), -12);
        x.row(0, 4, 1);
        due(23, "booleans", x.judge(0), -12);
        bytes(x, 0);
        due(23, "empty", x.judge(0), -2);
        bytes(x, 0, 1, 0, 6);
        due(23, "as it is", x.judge(0), -2);
        bytes(x, 0, 1, 0, 5);
        due(23, "not on day 2", x.judge(0), 2);
        bytes(x, 0, 6, 0);
        due(23, "not on day 0", x.judge(0), 0);
        bytes(x, 0, 1, -1);
        due(23, "not on day 1", x.judge(0), 1);
        x.mend(0, 7, 28);
        bytes(x, 0, 1, 6, 6);
        due(23, "beyond day 29", x.judge(0), 2);
        bytes(x, 0, 1, 6);
        due(23, "to day 29", x.judge(0), -2);
    }

    private static void read() {
        AskedFire x = town(2);
        x.card(0, 0);
        x.card(1, 0);
        due(24, "shelf 6", x.read(6, 0, 0), -1);
        due(24, "house 2", x.read(0, 2, 0), -1);
        due(24, "what 4", x.read(0, 0, 4), -1);
        due(24, "what -1", x.read(0, 0, -1), -1);
        due(24, "nothing there", x.read(0, 0, 0), -11);
        x.row(0, 3, 1);
        due(24, "longs", x.read(0, 0, 0), -12);
        bytes(x, 0, 0);
        due(24, "cakes 5 .. 9", x.read(0, 0, 0), 5);
        due(24, "the least", x.read(0, 0, 1), 5);
        due(24, "feuds 0", x.read(0, 0, 2), 1);
        due(24, "the greatest", x.read(0, 0, 3), 0);
        due(24, "the other's cakes 0 .. 5", x.read(0, 1, 0), 6);
        due(24, "the least of them", x.read(0, 1, 1), 0);
        due(24, "the other's feuds, all", x.read(0, 1, 2), 10);
        due(24, "the greatest of them", x.read(0, 1, 3), 9);
        bytes(x, 0, 0, 0);
        due(24, "none", x.read(0, 0, 0), 0);
        due(24, "no least", x.read(0, 0, 1), -2);
        due(24, "no feud", x.read(0, 0, 2), 0);
        due(24, "no greatest", x.read(0, 0, 3), -2);
        due(24, "cake as it was", x.of(0, 2), 5);
        due(24, "feud as it was", x.of(0, 3), 0);
        due(24, "nothing to undo", x.count(3), 0);
    }

    private static void drawn() {
        AskedFire x = town(2);
        due(25, "n 0", x.drawn(1, 0, -1), -1);
        due(25, "n 31", x.drawn(1, 31, -1), -1);
        due(25, "house 2", x.drawn(1, 1, 2), -1);
        due(25, "house -2", x.drawn(1, 1, -2), -1);
        x.mend(0, 7, 29);
        int z = 1103515245 + 12345;
        int first = (z >>> 8) % 12;
        z = z * 1103515245 + 12345;
        int second = (z >>> 8) % 12;
        int[] risk = {first, second};
        for (int h = 0; h < 2; h++) {
            x.mend(29, 5, 9);
            x.mend(h, 1, risk[h]);
            due(25, "not below its odds", x.drawn(1, 1, h), 0);
            x.mend(h, 1, risk[h] + 1);
            due(25, "below its odds", x.drawn(1, 1, h), 1);
        }
        due(25, "both", x.drawn(1, 1, -1), 2);
        x.card(1, -1);
        due(25, "one is visited", x.drawn(1, 1, -1), 1);
        due(25, "it is drawn for all the same", x.drawn(1, 1, 0), 1);
        AskedFire y = town(2);
        y.mend(0, 1, 12);
        for (int day = 0; day < 30; day++) {
            y.mend(day, 5, day < 2 ? 9 : 0);
        }
        y.card(0, 0);
        y.card(0, -1);
        due(25, "saved on both days, 30 seasons", y.drawn(5, 30, 0), 0);
        y.mend(2, 5, 9);
        due(25, "burnt once a season", y.drawn(5, 30, 0), 30);
        due(25, "nothing in deed", y.of(0, 8), 1);
        due(25, "none used", y.of(1, 10), 0);
    }

    private static void pass() {
        AskedFire x = town(2);
        due(26, "fires 4", x.pass(4), -1);
        due(26, "fires -1", x.pass(-1), -1);
        due(26, "nobody is visited", x.pass(2), -2);
        due(26, "1 is burnt", x.of(1, 8), 0);
        due(26, "0 stands", x.of(0, 8), 1);
        x.card(0, -1);
        due(26, "0 is visited", x.pass(3), 0);
        due(26, "0 is saved", x.of(0, 8), 1);
        due(26, "used", x.of(0, 10), 1);
        due(26, "NOW", x.of(0, 7), 2);
        due(26, "no change", x.count(3), 0);
        x.card(0, 3);
        x.mend(0, 7, 3);
        due(26, "by a day", x.pass(0), 0);
        due(26, "not used", x.of(1, 10), 0);
        x.mend(0, 7, 29);
        due(26, "day 29", x.pass(0), -5);
        due(26, "day 29, wrong too", x.pass(4), -1);
        due(26, "still day 29", x.of(0, 7), 29);
    }

    private static void build() {
        AskedFire x = town(1);
        due(27, "house 1", x.build(1), -1);
        due(27, "house -1", x.build(-1), -1);
        due(27, "it stands", x.build(0), -5);
        x.pass(1);
        due(27, "anew", x.build(0), 1);
        due(27, "it stands again", x.of(0, 8), 1);
        due(27, "built", x.led(4), 1);
        due(27, "burnt as before", x.led(3), 1);
    }

    private static void led() {
        AskedFire x = town(2);
        due(28, "what 5", x.led(5), -1);
        due(28, "what -1", x.led(-1), -1);
        due(28, "what 9", x.led(9), -1);
        due(28, "house 2", x.led(12), -1);
        due(28, "the greatest", x.led(Integer.MAX_VALUE), -1);
        x.card(1, 0);
        x.card(1, 1);
        x.pass(2);
        x.pass(1);
        x.pass(1);
        due(28, "days", x.led(0), 3);
        due(28, "visits", x.led(1), 2);
        due(28, "saved", x.led(2), 1);
        due(28, "burnt, once though told twice", x.led(3), 1);
        due(28, "built", x.led(4), 0);
        due(28, "of 0", x.led(10), 0);
        due(28, "of 1", x.led(11), 2);
    }

    private static void imageAndBack() {
        AskedFire x = town(1);
        due(30, "none", x.back(), -5);
        x.card(0, -1);
        x.pass(0);
        due(29, "image", x.image(), 1);
        x.house(9);
        x.card(1, -1);
        x.card(0, -1);
        x.mend(0, 2, 9);
        x.pass(0);
        x.pass(0);
        x.pass(3);
        due(30, "ahead: visits of 0", x.led(10), 2);
        due(30, "ahead: visits of 1", x.led(11), 1);
        due(30, "back", x.back(), 1);
        due(30, "NOW", x.of(0, 7), 1);
        due(30, "days", x.led(0), 1);
        due(30, "visits", x.led(1), 1);
        due(30, "burnt", x.led(3), 0);
        due(30, "0 stands again", x.of(0, 8), 1);
        due(30, "1 as it is", x.of(1, 8), 0);
        due(30, "visits of 0", x.led(10), 1);
        due(30, "visits of 1, 0 again", x.led(11), 0);
        due(30, "card 0 used as then", x.of(0, 10), 1);
        due(30, "card 1 as it is", x.of(1, 10), 1);
        due(30, "what is mended stays", x.of(0, 2), 9);
        due(30, "changes stay", x.count(3), 1);
        x.pass(0);
        due(30, "the image is still there", x.back(), 1);
        AskedFire y = town(1);
        y.card(0, -1);
        y.image();
        y.pass(0);
        y.back();
        due(30, "card 0 not used as then", y.of(0, 10), 0);
        x.mend(0, 7, 20);
        due(29, "a later one", x.image(), 20);
        x.mend(0, 7, 3);
        due(30, "takes its place", x.back(), 20);
    }

    private static void undoAndRedo() {
        AskedFire x = town(1);
        due(31, "none", x.undo(), -5);
        due(32, "none", x.redo(), -5);
        x.mend(0, 1, 3);
        due(31, "the same number is none", x.undo(), -5);
        x.mend(0, 1, 4);
        x.mend(0, 1, 5);
        x.mend(0, 7, 9);
        due(31, "one", x.undo(), 2);
        due(31, "NOW", x.of(0, 7), 0);
        due(31, "two", x.undo(), 1);
        due(31, "risk", x.of(0, 1), 4);
        due(32, "again", x.redo(), 1);
        due(32, "risk", x.of(0, 1), 5);
        x.mend(0, 1, 5);
        x.pass(0);
        due(32, "neither the same number nor a deed ends it", x.redo(), 0);
        due(32, "NOW", x.of(0, 7), 9);
        x.pass(0);
        due(31, "NOW as it was ahead", x.undo(), 2);
        due(31, "NOW 0", x.of(0, 7), 0);
        x.mend(0, 2, 1);
        due(32, "another came", x.redo(), -5);
        due(31, "the other", x.undo(), 2);
        AskedFire y = town(1);
        for (int i = 0; i < 45; i++) {
            y.mend(0, 0, i + 1);
        }
        due(31, "count", y.count(3), 40);
        for (int i = 39; i >= 0; i--) {
            due(31, "of forty", y.undo(), i);
            due(31, "cell behind it", y.of(0, 0), i + 5);
        }
        due(31, "forty at most", y.undo(), -5);
        due(31, "cell", y.of(0, 0), 5);
        for (int i = 39; i >= 0; i--) {
            due(32, "of forty", y.redo(), i);
            due(32, "cell behind it", y.of(0, 0), 45 - i);
        }
        due(32, "none", y.redo(), -5);
        due(32, "cell", y.of(0, 0), 45);
    }

    private static void body() {
        AskedFire x = new AskedFire();
        due(33, "-1", x.body(-1), -1);
        due(33, "8", x.body(8), -1);
        for (int i = 0; i < 50; i++) {
            due(33, "body", x.body(i % 8), i);
        }
        due(33, "full", x.body(0), -3);
        due(33, "full, wrong too", x.body(8), -1);
    }

    private static void act() {
        AskedFire x = new AskedFire();
        for (int kind = 0; kind < 8; kind++) {
            x.body(kind);
        }
        // By kind (which is n, too) with x 5: comes, dances, regrets, tells.
        int[][] want = {
            {5, 10, 5, 10 - 1}, {5 + 1 + 3, 18, 5 ^ 1, 18 - 0}, {7, -14, 5 ^ 2, -14 - 3}, {8, -18, 18, -18 - 6},
            {12, 24, 5 ^ 4, (24 - 5) ^ 5}, {10, -22, 0 * 3 - 7, -22 - ((1 ^ 5) * 3 - 7) + 1},
            {22, 44, 5 ^ 6, 44 - 7}, {23, 46 + (2 ^ 7), 5 ^ 7, 51 - 6},
        };
        for (int kind = 0; kind < 8; kind++) {
            for (int act = 0; act < 4; act++) {
                due(34, kind + " does " + act, x.act(kind, act, 5), want[kind][act]);
            }
        }
        due(34, "it wraps", x.act(1, 0, Integer.MAX_VALUE), Integer.MAX_VALUE + 4);
        due(34, "body 8", x.act(8, 0, 5), 0);
        due(34, "no trace then", x.count(5), 0);
        x.act(0, 0, 5);
        due(34, "act 4", x.act(0, 4, 5), 0);
        due(34, "no trace then", x.trace(0), -1);
        due(34, "act -1", x.act(0, -1, 5), 0);
        due(34, "body -1", x.act(-1, 0, 5), 0);
    }

    private static void trace() {
        AskedFire x = new AskedFire();
        for (int kind = 0; kind < 8; kind++) {
            x.body(kind);
        }
        int[][] tells = {
            {2, 10, 1, 11}, {2, 10, 20, 1, 11}, {2, 30, 10, 1, 11}, {2, 41, 30, 10, 1, 40, 11},
            {50, 2, 10, 20, 1, 11}, {61, 2, 41, 30, 10, 1, 60, 40, 11, 1}, {2, 10, 70, 1, 11},
            {2, 80, 10, 81, 70, 1, 11, 11},
        };
        for (int kind = 0; kind < 8; kind++) {
            x.act(kind, 3, 5);
            due(42, "bodies of " + kind, x.count(5), tells[kind].length);
            for (int i = 0; i < tells[kind].length; i++) {
                due(35, kind + " tells, " + i, x.trace(i), tells[kind][i]);
            }
            due(35, "beyond", x.trace(tells[kind].length), -1);
        }
        due(35, "-1", x.trace(-1), -1);
        due(35, "24", x.trace(24), -1);
    }

    private static void keep() {
        AskedFire x = new AskedFire();
        x.body(3);
        due(36, "shelf 6", x.keep(6, 0), -1);
        due(36, "shelf -1", x.keep(-1, 0), -1);
        due(36, "body 1", x.keep(0, 1), -1);
        due(36, "body -2", x.keep(0, -2), -1);
        due(36, "body 0", x.keep(5, 0), 1);
        due(36, "it is there", x.taken(5, 3), 3);
        due(36, "nothing", x.keep(5, -1), 1);
        due(36, "nothing is there", x.taken(5, 3), -11);
        x.row(5, 0, 1);
        due(36, "a body for a row", x.keep(5, 0), 1);
        due(36, "no row", x.put(5, 0, 1), -12);
    }

    private static void row() {
        AskedFire x = new AskedFire();
        due(37, "shelf 6", x.row(6, 0, 1), -1);
        due(37, "shelf -1", x.row(-1, 0, 1), -1);
        due(37, "sort 5", x.row(0, 5, 1), -1);
        due(37, "sort -1", x.row(0, -1, 1), -1);
        due(37, "61", x.row(0, 0, 61), -1);
        due(37, "below 0", x.row(0, 0, -1), -14);
        due(37, "below 0, sort wrong", x.row(0, 5, -1), -1);
        due(37, "nothing there still", x.put(0, 0, 1), -11);
        due(37, "0", x.row(0, 4, 0), 1);
        due(37, "no place", x.put(0, 0, 1), -13);
        due(37, "60", x.row(0, 3, 60), 1);
        due(37, "place 59", x.put(0, 59, 7), 1);
        due(37, "anew", x.row(0, 3, 60), 1);
        due(37, "all 0", x.element(0, 59), 0);
        x.body(0);
        x.keep(0, 0);
        due(37, "a refused one leaves the body", x.row(0, 0, -1), -14);
        due(37, "body", x.taken(0, 0), 0);
        due(37, "a row for a body", x.row(0, 0, 1), 1);
        due(37, "no body", x.taken(0, 0), -12);
    }

    private static void putAndElement() {
        AskedFire x = new AskedFire();
        long v = 0x123456789ABCDEF0L;
        long[] want = {(byte) v, (short) v, (int) v, v, 1};
        for (int sort = 0; sort < 5; sort++) {
            x.row(1, sort, 2);
            due(38, "put", x.put(1, 1, v), 1);
            due(39, "element of sort " + sort, x.element(1, 1), want[sort]);
            due(39, "the other", x.element(1, 0), 0);
            x.put(1, 1, 256);
            due(38, "256 in sort " + sort, x.element(1, 1), sort == 0 ? 0 : sort == 4 ? 1 : 256);
            due(38, "place 2", x.put(1, 2, 1), -13);
            due(38, "place -1", x.put(1, -1, 1), -13);
            due(39, "place 2", x.element(1, 2), NONE);
            due(39, "place -1", x.element(1, -1), NONE);
        }
        x.put(1, 0, 0);
        due(39, "false", x.element(1, 0), 0);
        due(38, "shelf 6", x.put(6, 0, 1), -1);
        due(38, "shelf -1", x.put(-1, 0, 1), -1);
        due(38, "nothing there", x.put(0, 0, 1), -11);
        due(39, "shelf 6", x.element(6, 0), NONE);
        due(39, "nothing there", x.element(0, 0), NONE);
        x.body(0);
        x.keep(0, 0);
        due(38, "a body", x.put(0, 0, 1), -12);
        due(39, "a body", x.element(0, 0), NONE);
    }

    private static void shift() {
        AskedFire x = new AskedFire();
        bytes(x, 0, 1, 2, 3, 4, 5);
        bytes(x, 1, 7, 8, 9);
        due(40, "shelf 6", x.shift(6, 0, 0, 0, 1), -1);
        due(40, "other 6", x.shift(0, 0, 6, 0, 1), -1);
        due(40, "nothing there", x.shift(2, 0, 0, 0, 1), -11);
        due(40, "nothing at the other", x.shift(0, 0, 2, 0, 1), -11);
        x.body(0);
        x.keep(2, 0);
        due(40, "a body", x.shift(2, 0, 0, 0, 1), -12);
        due(40, "to a body", x.shift(0, 0, 2, 0, 1), -12);
        due(40, "a body, nothing at the other", x.shift(2, 0, 3, 0, 1), -11);
        x.row(3, 1, 5);
        due(40, "shorts", x.shift(0, 0, 3, 0, 1), -12);
        due(40, "unlike ahead of places", x.shift(0, 9, 3, 0, 1), -12);
        due(40, "n -1", x.shift(0, 0, 1, 0, -1), -13);
        due(40, "i -1", x.shift(0, -1, 1, 0, 1), -13);
        due(40, "j -1", x.shift(0, 0, 1, -1, 1), -13);
        due(40, "beyond i", x.shift(0, 4, 1, 0, 2), -13);
        due(40, "beyond j", x.shift(0, 0, 1, 2, 2), -13);
        due(40, "sums that wrap", x.shift(0, Integer.MAX_VALUE, 1, 0, Integer.MAX_VALUE), -13);
        due(40, "none at the end", x.shift(0, 5, 1, 3, 0), 0);
        due(40, "none beyond the end", x.shift(0, 6, 1, 0, 0), -13);
        due(40, "to the other", x.shift(0, 1, 1, 1, 2), 2);
        due(40, "first stays", x.element(1, 0), 7);
        due(40, "second", x.element(1, 1), 2);
        due(40, "third", x.element(1, 2), 3);
        due(40, "upward in itself", x.shift(0, 0, 0, 1, 4), 4);
        int[] want = {1, 1, 2, 3, 4};
        for (int i = 0; i < 5; i++) {
            due(40, "upward " + i, x.element(0, i), want[i]);
        }
        due(40, "downward in itself", x.shift(0, 2, 0, 0, 3), 3);
        int[] then = {2, 3, 4, 3, 4};
        for (int i = 0; i < 5; i++) {
            due(40, "downward " + i, x.element(0, i), then[i]);
        }
    }

    private static void taken() {
        AskedFire x = new AskedFire();
        int[] above = {-1, 0, 0, 2, 1, 3, 0, 6};
        for (int kind = 0; kind < 8; kind++) {
            x.body(kind);
            x.keep(0, kind);
            for (int k = 0; k < 8; k++) {
                boolean under = false;
                for (int at = kind; at >= 0; at = above[at]) {
                    under |= at == k;
                }
                due(41, kind + " for " + k, x.taken(0, k), under ? kind : -12);
            }
        }
        due(41, "shelf 6", x.taken(6, 0), -1);
        due(41, "shelf -1", x.taken(-1, 0), -1);
        due(41, "kind 8", x.taken(0, 8), -1);
        due(41, "kind -1", x.taken(0, -1), -1);
        due(41, "nothing there", x.taken(1, 0), -11);
        x.row(1, 0, 1);
        due(41, "a row", x.taken(1, 0), -12);
    }

    private static void count() {
        AskedFire x = town(2);
        x.card(0, 1);
        x.feed('c');
        x.feed('f');
        x.feed('d');
        x.mend(0, 1, 9);
        x.mend(0, 1, 8);
        x.mend(0, 1, 7);
        x.mend(0, 1, 6);
        for (int i = 0; i < 5; i++) {
            x.body(0);
        }
        x.act(0, 1, 0);
        int[] want = {2, 1, 3, 4, 5, 2};
        for (int what = 0; what < 6; what++) {
            due(42, "count(" + what + ")", x.count(what), want[what]);
        }
        x.undo();
        due(42, "behind undo()", x.count(3), 3);
        due(42, "what 6", x.count(6), -1);
        due(42, "what -1", x.count(-1), -1);
    }
}
