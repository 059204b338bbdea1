import java.util.function.IntBinaryOperator;

/** The edges that Terms 1 and promises 1 to 6 name: houses, days, cards, NOW, and what a day accepts. */
public final class TownEdgesTest extends Bench {
    public static void main(String[] args) {
        newObject();
        cells();
        clubsHouse();
        houses();
        housesAreFull();
        risk();
        cake();
        feud();
        wood();
        dry();
        cards();
        cardsAreFull();
        cardsByDay();
        now();
        mendAnswersWhatWas();
        ofTellsMore();
        cardsFromARow();
        rowIsMissing();
        rowEnds();
        oneIsNotAsItMayBe();
        cardsFromARowFull();
        mostLiked();
        aboveZero();
        leastOfLikeOnes();
        usedByIt();
        goneBehindItsDay();
        burntDoNotAsk();
        oddsAreCut();
        visitedIsSaved();
        end();
    }

    private static void newObject() {
        says("A club, thirty days, no houses.");
        AskedFire x = new AskedFire();
        for (int what = 0; what <= 5; what++) {
            due("count " + what, x.count(what), 0);
        }
        due("of(-1, 5)", x.of(-1, 5), VOID);
        due("of(0, 5)", x.of(0, 5), 5);
        due("of(29, 5)", x.of(29, 5), 5);
        due("of(30, 5)", x.of(30, 5), VOID);
        due("of(0, 0)", x.of(0, 0), VOID);
        due("of(0, 6)", x.of(0, 6), VOID);
        for (int what = 0; what <= 4; what++) {
            due("led " + what, x.led(what), 0);
        }
        for (int shelf = 0; shelf <= 5; shelf++) {
            due("shelf " + shelf, x.taken(shelf, 0), NOTHING);
        }
    }

    private static void cells() {
        says("CELLS are 12 Y and X (X, Y 0 .. 11).");
        within("house of cell", 0, 143, BAD, v -> new AskedFire().house(v));
        within("mend to cell", 0, 143, VOID, v -> town(1).mend(0, 0, v));
        AskedFire x = town(1);
        for (int cellY = 0; cellY <= 11; cellY++) {
            for (int cellX = 0; cellX <= 11; cellX++) {
                x.mend(0, 0, 12 * cellY + cellX);
                due("hours to " + cellX + ", " + cellY, x.evening(1, -2), (cellX + cellY + 3) / 4);
            }
        }
        // 11 ends the first line and 12 begins the second: they are 11 and 1 cells apart, not 1.
        AskedFire y = new AskedFire();
        y.house(11);
        y.house(12);
        due("from 11 to 12", y.evening(3, -2), 3 + (3 + 1 + 3));
    }

    private static void clubsHouse() {
        says("The club's house is CELL 0.");
        AskedFire x = town(1);
        due("in cell 0", x.evening(1, -2), 0);
        x.mend(0, 0, 1);
        due("in cell 1", x.evening(1, -2), 1);
        x.mend(0, 0, 12);
        due("in cell 12", x.evening(1, -2), 1);
    }

    private static void houses() {
        says("HOUSES 0 .. 5, as they come");
        for (int n = 1; n <= 6; n++) {
            int houses = n;
            for (int what = 0; what <= 4; what++) {
                int w = what;
                within("of a house " + w, 0, n - 1, VOID, v -> town(houses).of(v, w));
                within("mend a house " + w, 0, n - 1, VOID, v -> town(houses).mend(v, w, 1));
            }
            within("stands", 0, n - 1, VOID, v -> town(houses).of(v, 8));
            within("card", 0, n - 1, BAD, v -> town(houses).card(v, 0));
            within("visits", 0, n - 1, BAD, v -> town(houses).visits(v, 0));
            within("odds", 0, n - 1, BAD, v -> town(houses).odds(v, 0));
            within("burns", 0, n - 1, NONE, v -> town(houses).burns(v, 1, 0));
            within("ask", 0, n - 1, BAD, v -> town(houses).ask(v));
            within("sweeten", 0, n - 1, BAD, v -> town(houses).sweeten(v, 0, 0));
            within("belief", 0, n - 1, NONE, v -> bytes(town(houses), 0, 0).belief(0, v, 6, 0));
            within("read", 0, n - 1, BAD, v -> bytes(town(houses), 0, 6).read(0, v, 0));
            within("drawn, -1 for all", -1, n - 1, BAD, v -> town(houses).drawn(1, 1, v));
            within("build", 0, n - 1, BAD, v -> town(houses).build(v));
            within("evening", 0, (1 << n) - 1, BAD, v -> town(houses).evening(v, -2));
            within("pass", 0, (1 << n) - 1, BAD, v -> town(houses).pass(v));
            within("led of a house", 10, 9 + n, BAD, v -> v >= 0 && v <= 9 ? BAD : town(houses).led(v));
            within("a card's house by a row", 0, n - 1, 0, v -> bytes(town(houses), 0, v > 99 || v < -99 ? 99 : v, 0)
                .cards(0, 0, 1));
        }
        noHouses();
    }

    private static void noHouses() {
        never("of", VOID, v -> new AskedFire().of(v, 0));
        never("stands", VOID, v -> new AskedFire().of(v, 8));
        never("mend", VOID, v -> new AskedFire().mend(v, 0, 1));
        never("card", BAD, v -> new AskedFire().card(v, 0));
        never("visits", BAD, v -> new AskedFire().visits(v, 0));
        never("odds", BAD, v -> new AskedFire().odds(v, 0));
        never("burns", NONE, v -> new AskedFire().burns(v, 0, 0));
        never("ask", BAD, v -> new AskedFire().ask(v));
        never("sweeten", BAD, v -> new AskedFire().sweeten(v, 0, 0));
        never("belief", NONE, v -> bytes(new AskedFire(), 0, 0).belief(0, v, 6, 0));
        never("read", BAD, v -> bytes(new AskedFire(), 0, 6).read(0, v, 0));
        never("build", BAD, v -> new AskedFire().build(v));
        due("drawn, house 0", new AskedFire().drawn(1, 1, 0), BAD);
        due("drawn, all", new AskedFire().drawn(1, 1, -1), 0);
        due("evening of none", new AskedFire().evening(0, -1), 0);
        due("evening of house 0", new AskedFire().evening(1, -1), BAD);
        due("pass without fires", new AskedFire().pass(0), NOT);
        due("pass with house 0", new AskedFire().pass(1), BAD);
        due("led of house 0", new AskedFire().led(10), BAD);
    }

    private static void housesAreFull() {
        says("A HOUSE in a CELL: its number. BAD, FULL: 6.");
        AskedFire x = new AskedFire();
        for (int n = 0; n < 6; n++) {
            due("BAD ahead of house " + n, x.house(144), BAD);
            due("house " + n, x.house(140 + n % 4), n);
            due("count", x.count(0), n + 1);
        }
        due("a seventh", x.house(0), FULL);
        due("a seventh in cell 143", x.house(143), FULL);
        due("BAD is named first", x.house(144), BAD);
        due("BAD is named first, below", x.house(-1), BAD);
        due("count", x.count(0), 6);
        for (int n = 0; n < 6; n++) {
            due("cell of " + n, x.of(n, 0), 140 + n % 4);
        }
    }

    /** A number of a house: what it is at first, and how far it goes. */
    private static void number(int what, int first, int least, int most) {
        AskedFire x = town(6);
        for (int house = 0; house < 6; house++) {
            due("at first, of " + house, x.of(house, what), first);
        }
        within("mend", least, most, VOID, v -> town(1).mend(0, what, v));
        for (int v = least; v <= most; v++) {
            x.mend(3, what, v);
            due("becomes " + v, x.of(3, what), v);
        }
        due("the one ahead stays", x.of(2, what), first);
        due("the one behind stays", x.of(4, what), first);
        due("below", x.mend(3, what, least - 1), VOID);
        due("above", x.mend(3, what, most + 1), VOID);
        due("still", x.of(3, what), most);
    }

    private static void risk() {
        says("RISK (0 .. 12; 3 at first)");
        number(1, 3, 0, 12);
    }

    private static void cake() {
        says("CAKE (0 .. 9; 5 at first)");
        number(2, 5, 0, 9);
    }

    private static void feud() {
        says("FEUD (0 .. 9; 0 at first)");
        number(3, 0, 0, 9);
    }

    private static void wood() {
        says("WOOD (1 .. 9 hours till it is gone; 3 at first)");
        number(4, 3, 1, 9);
    }

    private static void dry() {
        says("DAYS 0 .. 29: DRY of each (0 .. 9; 5 at first).");
        AskedFire x = new AskedFire();
        within("mend dry", 0, 9, VOID, v -> new AskedFire().mend(29, 5, v));
        within("day of dry", 0, 29, VOID, v -> new AskedFire().mend(v, 5, 1));
        within("of a day", 0, 29, VOID, v -> new AskedFire().of(v, 5));
        for (int day = 0; day < 30; day++) {
            due("at first " + day, x.of(day, 5), 5);
            due("mend " + day, x.mend(day, 5, day % 10), 5);
        }
        for (int day = 0; day < 30; day++) {
            due("dry of " + day, x.of(day, 5), day % 10);
        }
    }

    private static void cards() {
        says("CARDS 0 .. 11, as they come: of a HOUSE, for a DAY (-1: without one, any).");
        within("day of a card", -1, 29, BAD, v -> v == BAD ? 0 : town(1).card(0, v));
        due("without one", town(1).card(0, -1), 0);
        within("mend its day", -1, 29, VOID, v -> asked(1, 3).mend(0, 6, v));
        for (int n = 1; n <= 12; n++) {
            int most = n - 1;
            within("day of card", 0, most, VOID, v -> full(most + 1).of(v, 6));
            within("mend card", 0, most, VOID, v -> full(most + 1).mend(v, 6, 1));
            within("house of card", 0, most, VOID, v -> full(most + 1).of(v, 9));
            within("card used", 0, most, VOID, v -> full(most + 1).of(v, 10));
            within("likes card", 0, most, VOID, v -> full(most + 1).likes(v, 0));
        }
        never("of no card", VOID, v -> town(1).of(v, 6));
        never("house of no card", VOID, v -> town(1).of(v, 9));
        never("no card used", VOID, v -> town(1).of(v, 10));
        never("mend no card", VOID, v -> town(1).mend(v, 6, 1));
        never("likes no card", VOID, v -> town(1).likes(v, 0));
    }

    private static AskedFire full(int cards) {
        AskedFire x = town(6);
        for (int i = 0; i < cards; i++) {
            x.card(i % 6, i == 0 ? -1 : i);
        }
        return x;
    }

    private static void cardsAreFull() {
        says("A CARD of a HOUSE for a DAY (-1: any): its number. BAD, FULL: 12.");
        AskedFire x = town(6);
        for (int n = 0; n < 12; n++) {
            due("card " + n, x.card(n % 6, n), n);
            due("count", x.count(1), n + 1);
        }
        due("a thirteenth", x.card(0, 0), FULL);
        due("a thirteenth without a day", x.card(5, -1), FULL);
        due("BAD is named first: house", x.card(6, 0), BAD);
        due("BAD is named first: day", x.card(0, 30), BAD);
        due("count", x.count(1), 12);
        for (int n = 0; n < 12; n++) {
            due("house of " + n, x.of(n, 9), n % 6);
            due("day of " + n, x.of(n, 6), n);
            due("used " + n, x.of(n, 10), 0);
        }
    }

    private static void cardsByDay() {
        says("of all CARDS for it, and those without a day that have not been used");
        AskedFire x = asked(1, 0);
        for (int day = 0; day <= 29; day++) {
            x.mend(0, 6, day);
            due("the day ahead of " + day, day == 0 ? NOT : x.accepts(day - 1, 0), NOT);
            due("day " + day, x.accepts(day, 0), 0);
            due("the day behind " + day, day == 29 ? NOT : x.accepts(day + 1, 0), NOT);
        }
        AskedFire y = asked(1, -1);
        for (int now = 0; now <= 29; now++) {
            y.mend(0, 7, now);
            due("without a day, on " + now, y.accepts(now, 0), 0);
        }
    }

    private static void now() {
        says("NOW (0 .. 29; 0 at first: the day).");
        due("at first", new AskedFire().of(0, 7), 0);
        within("mend", 0, 29, VOID, v -> new AskedFire().mend(0, 7, v));
        says("NOW (7; number 0)");
        within("number", 0, 0, VOID, v -> new AskedFire().mend(v, 7, 3));
        within("number of of()", 0, 0, VOID, v -> new AskedFire().of(v, 7));
    }

    private static void mendAnswersWhatWas() {
        says("becomes v: what it was. VOID: BAD.");
        int[] least = {0, 0, 0, 0, 1, 0, -1, 0};
        int[] most = {143, 12, 9, 9, 9, 9, 29, 29};
        AskedFire x = asked(1, 4);
        for (int what = 0; what <= 7; what++) {
            int was = x.of(0, what);
            due("least of " + what, x.mend(0, what, least[what]), was);
            due("most of " + what, x.mend(0, what, most[what]), least[what]);
            due("the same of " + what, x.mend(0, what, most[what]), most[what]);
            due("beyond of " + what, x.mend(0, what, most[what] + 1), VOID);
            due("then " + what, x.of(0, what), most[what]);
        }
        within("what", 0, 7, VOID, v -> asked(1, 4).mend(0, v, 1));
        for (int what = 8; what <= 10; what++) {
            due("no mend of what of() tells more: " + what, x.mend(0, what, 1), VOID);
        }
    }

    private static void ofTellsMore() {
        says("As of mend() (0 to 7); of a HOUSE 8 whether it stands (1, 0), of a CARD 9 its HOUSE, 10 whether it is "
            + "USED. VOID: BAD.");
        within("what", 0, 10, VOID, v -> asked(1, 4).of(0, v));
        AskedFire x = town(2);
        x.card(1, -1);
        due("stands", x.of(0, 8), 1);
        due("its house", x.of(0, 9), 1);
        due("not used", x.of(0, 10), 0);
        x.pass(1);
        due("stands no more", x.of(0, 8), 0);
        due("the other stands", x.of(1, 8), 1);
        due("used", x.of(0, 10), 1);
        // Two houses, one card: a number is a house's or a card's by what is asked.
        due("house 1 stands", x.of(1, 8), 1);
        due("no card 1: house", x.of(1, 9), VOID);
        due("no card 1: used", x.of(1, 10), VOID);
    }

    private static void cardsFromARow() {
        says("from place i on, n (1 .. 12) of them: how many came (0 with i below 0)");
        within("n", 1, 12, BAD, v -> bytes(town(1), 0, 0, 1).cards(0, 0, v));
        within("shelf", 0, 5, BAD, v -> town(1).cards(v, 0, 1));
        AskedFire x = bytes(town(3), 0, 0, 5, 1, -1, 2, 29, 0, 7);
        due("i -1", x.cards(0, -1, 1), 0);
        due("i the least", x.cards(0, MIN, 12), 0);
        due("none came", x.count(1), 0);
        due("one", x.cards(0, 2, 1), 1);
        due("its house", x.of(0, 9), 1);
        due("its day", x.of(0, 6), -1);
        due("from 0, two", x.cards(0, 0, 2), 2);
        due("house", x.of(1, 9), 0);
        due("day", x.of(1, 6), 5);
        due("the second's house", x.of(2, 9), 1);
        due("three at once", x.cards(0, 2, 3), 3);
        due("the last's day", x.of(5, 6), 7);
        due("count", x.count(1), 6);
        due("an odd place: 5 is no house", x.cards(0, 1, 1), 0);
        AskedFire y = new AskedFire();
        for (int i = 0; i < 6; i++) {
            y.house(0);
        }
        bytes(y, 0, 9, 5, 3, 4, 2);
        due("an odd place: house 5 for day 3, then 4 for 2", y.cards(0, 1, 12), 2);
        due("house", y.of(0, 9), 5);
        due("day", y.of(0, 6), 3);
        y.row(1, 0, 24);
        due("twelve are wanted, ten are open", y.cards(1, 0, 12), 10);
        AskedFire z = town(1);
        z.row(0, 0, 60);
        due("eleven", z.cards(0, 0, 11), 11);
        AskedFire all = town(1);
        all.row(0, 0, 24);
        due("twelve", all.cards(0, 0, 12), 12);
    }

    private static void rowIsMissing() {
        says("BAD, -12 (no ROW of bytes; a SHELF that holds nothing is missing)");
        AskedFire x = town(1);
        due("nothing", x.cards(3, 0, 12), 0);
        due("nothing, i below 0", x.cards(3, -1, 12), 0);
        x.body(0);
        x.keep(3, 0);
        due("a body", x.cards(3, 0, 1), OTHER);
        for (int sort = 1; sort <= 4; sort++) {
            x.row(3, sort, 4);
            due("sort " + sort, x.cards(3, 0, 1), OTHER);
            due("sort " + sort + ", i below 0", x.cards(3, -1, 1), OTHER);
            due("BAD is named first", x.cards(3, 0, 13), BAD);
        }
        x.keep(3, -1);
        due("nothing again", x.cards(3, 0, 1), 0);
        due("no card came", x.count(1), 0);
        x.row(3, 0, 4);
        due("bytes", x.cards(3, 0, 1), 1);
    }

    private static void rowEnds() {
        says("it ends where the row is missing, ends (within a two, too)");
        IntBinaryOperator came = (length, i) -> {
            AskedFire x = town(1);
            x.row(0, 0, length);
            int answer = x.cards(0, i, 12);
            due("count", x.count(1), answer);
            return answer;
        };
        int[] byLength = {0, 0, 1, 1, 2, 2, 3};
        for (int length = 0; length <= 6; length++) {
            due("length " + length, came.applyAsInt(length, 0), byLength[length]);
        }
        due("from 1 of 4", came.applyAsInt(4, 1), 1);
        due("from 2 of 4", came.applyAsInt(4, 2), 1);
        due("from 3 of 4", came.applyAsInt(4, 3), 0);
        due("from 4 of 4", came.applyAsInt(4, 4), 0);
        due("from 5 of 4", came.applyAsInt(4, 5), 0);
        due("from 58 of 60", came.applyAsInt(60, 58), 1);
        due("from 59 of 60", came.applyAsInt(60, 59), 0);
        due("from 60 of 60", came.applyAsInt(60, 60), 0);
        due("from the greatest", came.applyAsInt(60, MAX), 0);
        due("from one less", came.applyAsInt(60, MAX - 1), 0);
        due("a longer row was there before", again(), 1);
    }

    private static int again() {
        AskedFire x = town(1);
        x.row(0, 0, 60);
        x.row(0, 0, 3);
        return x.cards(0, 0, 12);
    }

    private static void oneIsNotAsItMayBe() {
        says("one is not as it may be, or CARDS are FULL: those ahead came.");
        int[][] rows = {{2, 0}, {-1, 0}, {0, 30}, {0, -2}, {127, 0}, {0, -128}};
        for (int[] two : rows) {
            AskedFire x = bytes(town(2), 0, 1, 29, two[0], two[1], 0, 0);
            due("ends at " + two[0] + ", " + two[1], x.cards(0, 0, 3), 1);
            due("the one ahead came", x.count(1), 1);
            due("its day", x.of(0, 6), 29);
        }
        due("all may be", bytes(town(2), 0, 1, 29, 0, -1, 1, 0).cards(0, 0, 3), 3);
    }

    private static void cardsFromARowFull() {
        says("n of them; it ends where the row is missing");
        for (int ahead = 0; ahead <= 12; ahead++) {
            AskedFire x = town(1);
            for (int i = 0; i < ahead; i++) {
                x.card(0, 3);
            }
            x.row(0, 0, 6);
            int came = Math.min(3, 12 - ahead);
            due("with " + ahead + " ahead", x.cards(0, 0, 3), came);
            due("count", x.count(1), ahead + came);
        }
    }

    private static void mostLiked() {
        says("the club ACCEPTS that which it LIKES most");
        AskedFire x = town(3);
        x.card(2, 0);
        x.card(1, 0);
        x.card(0, 0);
        for (int house = 0; house < 3; house++) {
            x.mend(house, 2, 6);
            due("one more cake for " + house, x.accepts(0, 1), house);
            x.mend(house, 2, 5);
        }
    }

    private static void aboveZero() {
        says("if that is above 0");
        AskedFire x = asked(1, -1);
        String[] laws = {"-99", "-1", "0", "1", "2", "99"};
        int[] accepted = {NOT, NOT, NOT, 0, 0, 0};
        for (int i = 0; i < laws.length; i++) {
            by(laws[i], x);
            due("liked " + laws[i], x.accepts(0, 0), accepted[i]);
            due("house, liked " + laws[i], x.accepts(0, 1), accepted[i]);
        }
        AskedFire y = asked(1, -1);
        y.mend(0, 2, 4);
        int[] byFeud = {0, 0, 0, 0, NOT, NOT};
        for (int feud = 0; feud <= 5; feud++) {
            y.mend(0, 3, feud);
            due("cake 4, feud " + feud, y.accepts(0, 0), byFeud[feud]);
        }
    }

    private static void leastOfLikeOnes() {
        says("(of like ones the least)");
        AskedFire x = town(3);
        x.card(2, 4);
        x.card(2, 4);
        x.card(0, 4);
        x.card(1, -1);
        due("card 0 of house 2", x.accepts(4, 0), 0);
        due("on day 0 the one without a day", x.accepts(0, 0), 3);
        x.mend(2, 3, 1);
        due("house 2 is liked less", x.accepts(4, 0), 2);
        x.mend(0, 3, 1);
        x.mend(0, 7, 4);
        due("house 1 is liked more, by the last card", x.accepts(4, 0), 3);
        x.mend(1, 3, 1);
        due("all alike again", x.accepts(4, 0), 0);
        says("(held within -99 .. 99)");
        AskedFire y = by("c*33", town(2));
        y.card(0, 0);
        y.card(1, 0);
        y.mend(0, 2, 2);
        y.mend(1, 2, 3);
        due("66 against 99", y.accepts(0, 0), 1);
        y.mend(0, 2, 3);
        y.mend(1, 2, 4);
        due("99 against 132: alike", y.accepts(0, 0), 0);
        y.mend(1, 2, 9);
        due("99 against 297: alike", y.accepts(0, 0), 0);
    }

    private static void usedByIt() {
        says("a CARD without a day is USED by it");
        AskedFire x = town(1);
        x.card(0, 1);
        x.card(0, -1);
        due("day 0 by the one without a day", x.accepts(0, 0), 1);
        due("day 1 by its card", x.accepts(1, 0), 0);
        due("day 2: it is used", x.accepts(2, 0), NOT);
        due("not used in deed", x.of(1, 10), 0);
        x.pass(0);
        due("used in deed", x.of(1, 10), 1);
        due("the other is not", x.of(0, 10), 0);
        x.pass(0);
        due("one for a day is not used", x.of(0, 10), 0);
        AskedFire y = asked(1, 0);
        y.card(0, -1);
        y.pass(0);
        due("of like ones the one for the day went", y.of(1, 10), 0);
        due("so the other is there", y.accepts(1, 0), 1);
    }

    private static void goneBehindItsDay() {
        says("(one for a day is gone behind its day)");
        AskedFire x = asked(1, 5);
        for (int now = 0; now <= 5; now++) {
            x.mend(0, 7, now);
            due("NOW " + now, x.accepts(5, 0), 0);
            due("visits, NOW " + now, x.visits(0, 29), 1);
            due("without, NOW " + now, x.lists(1), 0);
            due("match, NOW " + now, x.lists(2), 1);
        }
        x.mend(0, 7, 6);
        due("NOW 6", x.accepts(6, 0), NOT);
        due("day 5", x.accepts(5, 0), BAD);
        due("visits", x.visits(0, 29), 0);
        due("without", x.lists(1), 1);
        due("match", x.lists(2), 0);
        AskedFire y = asked(1, 5);
        y.mend(0, 7, 5);
        due("by its day in deed", y.pass(0), 0);
        due("once alone", y.pass(0), NOT);
    }

    private static void burntDoNotAsk() {
        says("of HOUSES that stand, the club ACCEPTS");
        AskedFire x = town(2);
        x.card(0, 1);
        x.card(1, 1);
        due("both stand", x.accepts(1, 0), 0);
        x.pass(1);
        due("0 is burnt", x.accepts(1, 0), 1);
        x.build(0);
        due("0 is built anew", x.accepts(1, 0), 0);
        AskedFire y = asked(1, 1);
        y.pass(1);
        due("nobody stands", y.accepts(1, 0), NOT);
    }

    private static void oddsAreCut() {
        says("a HOUSE that stands burns on a day with odds of twelve: RISK times DRY by 9 (cut)");
        AskedFire x = town(1);
        for (int risk = 0; risk <= 12; risk++) {
            x.mend(0, 1, risk);
            for (int dry = 0; dry <= 9; dry++) {
                x.mend(0, 5, dry);
                int whole = 0;
                while ((whole + 1) * 9 <= risk * dry) {
                    whole++;
                }
                due("risk " + risk + ", dry " + dry, x.odds(0, 0), whole);
            }
        }
    }

    private static void visitedIsSaved() {
        says("One that is VISITED that day is saved; another one is BURNT (it stands no more).");
        AskedFire x = asked(3, 0);
        due("visited", x.pass(3), 0);
        due("saved", x.of(0, 8), 1);
        due("burnt", x.of(1, 8), 0);
        due("did not burn", x.of(2, 8), 1);
        due("the next day nobody comes", x.pass(1), NOT);
        due("burnt then", x.of(0, 8), 0);
    }
}
