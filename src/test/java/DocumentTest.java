import java.io.IOException;
import java.nio.file.Files;
import java.nio.file.Path;
import java.util.ArrayList;
import java.util.List;
import java.util.regex.Matcher;
import java.util.regex.Pattern;
import java.util.stream.Stream;

/**
 * The document from its first line to its last: the sentences that name no edge, by examples worked out by hand; and
 * whether each sentence is quoted by a test of the project.
 */
public final class DocumentTest extends Bench {
    private static final Path DOCUMENT = Path.of("../shared/DOC.md");
    private static final Path SOURCE = Path.of("src/main/java/AskedFire.java");

    public static void main(String[] args) throws IOException {
        groups();
        housesAsTheyCome();
        aDay();
        fire();
        thought();
        burnsAndMean();
        howOftenAlready();
        plan();
        evening();
        belief();
        read();
        drawn();
        inDeed();
        laidBack();
        acts();
        bodiesOfActs();
        shelves();
        answers();
        numbersOfMend();
        eachSentenceIsQuoted();
        end();
    }

    /** The face is held by RulesTest; here, what stands ahead of its calls. */
    private static void groups() throws IOException {
        String source = Files.readString(SOURCE);
        Matcher group = Pattern.compile("Ahead of the calls (.*) the interface says: ---- ([a-z, ]+)")
            .matcher(Files.readString(DOCUMENT));
        int groups = 0;
        while (group.find()) {
            says(group.group());
            groups++;
            String title = "// ---- " + group.group(2).strip() + "\n";
            int from = source.indexOf(title);
            int to = source.indexOf("// ---- ", from + 1);
            Matcher call = Pattern.compile("`(\\w+)`").matcher(group.group(1));
            while (call.find()) {
                Matcher at = Pattern.compile("public (int|long) " + call.group(1) + "\\(").matcher(source);
                due(call.group(1) + " stands behind its title", at.find() && from < at.start() && at.start() < to ? 1 : 0, 1);
            }
        }
        says("SO THAT NOTHING IS READ TWO WAYS");
        due("groups", groups, 5);
    }

    private static void housesAsTheyCome() {
        says("HOUSES 0 .. 5, as they come: CELL, RISK (0 .. 12; 3 at first), CAKE (0 .. 9; 5 at first), FEUD (0 .. 9; "
            + "0 at first), WOOD (1 .. 9 hours till it is gone; 3 at first).");
        AskedFire x = new AskedFire();
        due("the first", x.house(77), 0);
        due("the second", x.house(5), 1);
        int[] want = {5, 3, 5, 0, 3};
        for (int what = 0; what < 5; what++) {
            due("of(1, " + what + ")", x.of(1, what), want[what]);
        }
        due("of(0, 0)", x.of(0, 0), 77);
    }

    private static void aDay() {
        says("A DAY: of all CARDS for it, and those without a day that have not been used, of HOUSES that stand, the "
            + "club ACCEPTS that which it LIKES most, if that is above 0 (of like ones the least); it VISITS that "
            + "HOUSE; a CARD without a day is USED by it (one for a day is gone behind its day).");
        AskedFire x = at(4, town(3));
        x.mend(1, 2, 7);
        x.card(0, 4);
        x.card(1, 4);
        x.card(2, -1);
        due("likes(0, 4)", x.likes(0, 4), 5);
        due("likes(1, 4)", x.likes(1, 4), 7);
        due("day 4", x.pass(0), 1);
        due("the CARD for day 4", x.of(1, 10), 0);
        due("the CARD without a day, not taken yet", x.of(2, 10), 0);
        due("day 5", x.pass(0), 2);
        due("the CARD without a day", x.of(2, 10), 1);
        due("day 6: those for day 4 are gone, that without a day is USED", x.pass(0), NOT);
        due("VISITS", x.led(1), 2);
    }

    private static void fire() {
        says("FIRE: a HOUSE that stands burns on a day with odds of twelve: RISK times DRY by 9 (cut). One that is "
            + "VISITED that day is saved; another one is BURNT (it stands no more).");
        AskedFire x = asked(2, 0);
        x.mend(1, 1, 7);
        x.mend(3, 5, 4);
        due("7 times 5 by 9", x.odds(1, 0), 3);
        due("7 times 4 by 9", x.odds(1, 3), 3);
        due("3 times 4 by 9", x.odds(0, 3), 1);
        due("both burn", x.pass(3), 0);
        due("saved", x.of(0, 8), 1);
        due("BURNT", x.of(1, 8), 0);
    }

    private static void thought() {
        AskedFire x = town(2);
        x.mend(1, 2, 6);
        x.card(0, 2);
        x.card(1, 2);
        x.card(1, -1);
        says("Which CARD is ACCEPTED (what 0), which HOUSE is VISITED (1). BAD; NOT.");
        due("day 0", x.accepts(0, 0), 2);
        due("day 0", x.accepts(0, 1), 1);
        due("day 1", x.accepts(1, 0), NOT);
        due("day 1", x.accepts(1, 1), NOT);
        due("day 2: 6 less one VISIT against 5, of like ones the least", x.accepts(2, 0), 0);
        due("what 2", x.accepts(0, 2), BAD);
        says("How often a HOUSE is VISITED from NOW to a day. BAD.");
        due("house 1 to day 0", x.visits(1, 0), 1);
        due("house 0 to day 1", x.visits(0, 1), 0);
        due("house 0 to day 2", x.visits(0, 2), 1);
        due("house 2", x.visits(2, 0), BAD);
        says("The first day nobody is VISITED (what 0; NOT), DRIEST (1). BAD.");
        due("nobody", x.first(0), 1);
        x.mend(7, 5, 6);
        due("driest", x.first(1), 7);
        due("what 2", x.first(2), BAD);
        says("ODDS of fire of a HOUSE on a day.");
        due("3 times 6 by 9", x.odds(0, 7), 2);
        due("3 times 5 by 9", x.odds(0, 8), 1);
    }

    private static void burnsAndMean() {
        AskedFire x = asked(2, 1);
        x.mend(0, 1, 9);
        says("BURNS: how likely a HOUSE that stands is BURNT within t (0 .. 8) days from NOW on (to 29 at most), VISITS "
            + "as told ahead: a fraction in lowest terms (of one that does not stand: 1 by 1).");
        // ODDS are 5 and 1; HOUSE 0 is VISITED on day 1.
        part("house 0, no day", x.burns(0, 0, 0), x.burns(0, 0, 1), 0, 1);
        part("house 0, a day", x.burns(0, 1, 0), x.burns(0, 1, 1), 5, 12);
        part("house 0, two days", x.burns(0, 2, 0), x.burns(0, 2, 1), 5, 12);
        part("house 0, three days", x.burns(0, 3, 0), x.burns(0, 3, 1), 95, 144);
        part("house 1, two days", x.burns(1, 2, 0), x.burns(1, 2, 1), 23, 144);
        says("BURNS. Long.MIN_VALUE: BAD.");
        due("house 2", x.burns(2, 0, 0), NONE);
        says("MEAN: of how many HOUSES that stand that is the mean: a fraction (t 0 .. 4).");
        part("a day", x.mean(1, 0), x.mean(1, 1), 1, 2);
        part("two days", x.mean(2, 0), x.mean(2, 1), 83, 144);
        says("MEAN. Long.MIN_VALUE: BAD.");
        due("part 2", x.mean(1, 2), NONE);
    }

    private static void howOftenAlready() {
        says("ALSO: n in THE LAW: of the HOUSE.");
        AskedFire x = by("9-n", town(2));
        x.card(0, 0);
        x.card(0, 5);
        x.card(1, 5);
        due("its other CARD brought the club there once", x.likes(1, 5), 8);
        due("another HOUSE", x.likes(2, 5), 9);
        due("day 0", x.pass(0), 0);
        due("in deed as in thought", x.likes(1, 5), 8);
    }

    private static void plan() {
        says("PLAN: for each of t (0 .. 4) days from NOW on the club may ACCEPT any CARD it has for that day (not USED, "
            + "the HOUSE stands; whether it LIKES it or not), or none: so that the MEAN of HOUSES BURNT within them is "
            + "least: that, a fraction; the CARD of the k-th day (of like ones none first, then the least, day by day; "
            + "NOT: none).");
        AskedFire x = town(2);
        x.mend(1, 1, 9);
        x.card(0, 0);
        x.card(1, -1);
        // ODDS are 1 and 5: 1 by 12 and 5 by 12 stay, if HOUSE 0 is VISITED first and HOUSE 1 then; 23 and 60 by 144, if
        // HOUSE 1 is VISITED first and nobody then.
        part("two days", x.plan(2, 0), x.plan(2, 1), 1, 2);
        due("day 0", x.planned(2, 0), 0);
        due("day 1", x.planned(2, 1), 1);
        part("one day", x.plan(1, 0), x.plan(1, 1), 1, 12);
        due("day 0", x.planned(1, 0), 1);
        due("by THE LAW", x.accepts(0, 0), 0);
        says("PLAN: the MEAN. Long.MIN_VALUE: BAD.");
        due("t 5", x.plan(5, 0), NONE);
    }

    private static void evening() {
        says("AN EVENING: HOUSES (a set, bits) burn at once, the engine leaves the club's house at hour 0 and is at a "
            + "HOUSE behind as many hours as CELLS there (X and Y apart together) by 4 (cut upward), stays an hour, goes "
            + "on: in the order in which it comes to fewest too late (a HOUSE it comes to behind more than WOOD hours is "
            + "lost): how many are lost; the k-th (of like ones the first by numbers); SUM of hours at which it comes (of "
            + "that order).");
        AskedFire x = new AskedFire();
        x.house(8);
        x.house(4);
        x.house(48);
        // HOUSE 1 at hour 1, HOUSE 0 at 1 + 1 + 1, HOUSE 2 (12 CELLS away) at 3 + 1 + 3, too late.
        due("lost", x.evening(7, -1), 1);
        due("SUM", x.evening(7, -2), 11);
        due("first", x.evening(7, 0), 1);
        due("second", x.evening(7, 1), 0);
        due("third", x.evening(7, 2), 2);
        due("HOUSES 0 and 2: one is lost, so the first by numbers", x.evening(5, 0), 0);
        due("at 2 and at 2 + 1 + 3", x.evening(5, -2), 8);
    }

    private static void belief() {
        says("BELIEF: a HOUSE sets its own fires on days it is VISITED (with odds x of twelve then, never else) with a "
            + "belief of 1 by 13 ahead, else it burns by ODDS on any day: a ROW of bytes: day by day from NOW on 2 times "
            + "whether it was VISITED, and whether it burned (12 at most, to 29; it ends with what is not 0 .. 3): what "
            + "to believe then: a fraction (neither can be: -2 by 1).");
        AskedFire x = town(1);
        bytes(x, 0, 3);
        // ODDS are 1: 1 times 6 against 12 times 1.
        part("VISITED and burned", x.belief(0, 0, 6, 0), x.belief(0, 0, 6, 1), 1, 3);
        bytes(x, 0, 3, 0);
        // 6 times 12 against 12 times 11.
        part("nothing then", x.belief(0, 0, 6, 0), x.belief(0, 0, 6, 1), 6, 17);
        bytes(x, 0, 3, 2);
        // 6 times 6 against 12 times 11.
        part("VISITED then", x.belief(0, 0, 6, 0), x.belief(0, 0, 6, 1), 3, 14);
        bytes(x, 0, 3, 1);
        part("burned while nobody came", x.belief(0, 0, 6, 0), x.belief(0, 0, 6, 1), 0, 1);
    }

    private static void read() {
        says("READ: a ROW of bytes: which HOUSE was VISITED day by day from NOW on (6: none): JUDGED: which one, from 0, "
            + "is the first that is not so by THE LAW (beyond day 29, too); NOT.");
        AskedFire x = town(2);
        x.card(0, 0);
        x.card(1, 0);
        x.card(1, 2);
        bytes(x, 3, 0, 6, 1);
        due("all is so", x.judge(3), NOT);
        bytes(x, 3, 1, 6, 1);
        due("HOUSE 1 on day 0", x.judge(3), 0);
        bytes(x, 3, 0, 0, 1);
        due("HOUSE 0 on day 1", x.judge(3), 1);
        bytes(x, 3, 1, 6, 1);
        // CAKE 6 to 9 of HOUSE 1, or FEUD of HOUSE 0 above 0; HOUSE 1 is liked by one less on day 2.
        due("CAKES", x.read(3, 1, 0), 4);
        due("the least", x.read(3, 1, 1), 6);
        due("FEUDS", x.read(3, 0, 2), 9);
        due("the greatest", x.read(3, 0, 3), 9);
    }

    private static void drawn() {
        says("DRAWN: how often a HOUSE is BURNT (house 0 on), all (-1). BAD.");
        AskedFire x = at(29, town(2));
        // SEED 0 gives 12345 (>>> 8: 48, % 12: 0) for HOUSE 0 and then -740551042 (>>> 8: 13884438, % 12: 6) for HOUSE 1.
        due("all", x.drawn(0, 1, -1), 1);
        due("HOUSE 0", x.drawn(0, 1, 0), 1);
        due("HOUSE 1", x.drawn(0, 1, 1), 0);
        due("HOUSE 2", x.drawn(0, 1, 2), BAD);
        x.mend(29, 5, 6);
        x.mend(1, 1, 10);
        due("ODDS of 6", x.drawn(0, 1, 1), 0);
        x.mend(1, 1, 11);
        due("ODDS of 7", x.drawn(0, 1, 1), 1);
        due("both", x.drawn(0, 1, -1), 2);
    }

    private static void inDeed() {
        says("IN DEED: a CARD comes; a day passes (29 at most): it is told which HOUSES burn (bits): the club VISITS one "
            + "by THE LAW, those that burn and are not VISITED are BURNT; a HOUSE that is BURNT is built anew.");
        AskedFire x = town(3);
        due("a CARD comes", x.card(2, 0), 0);
        due("HOUSES 0 and 2 burn", x.pass(5), 2);
        due("HOUSE 0", x.of(0, 8), 0);
        due("HOUSE 1", x.of(1, 8), 1);
        due("HOUSE 2", x.of(2, 8), 1);
        due("NOW", x.of(0, 7), 1);
        due("HOUSE 0, which does not stand, can't be BURNT", x.pass(1), NOT);
        due("BURNT", x.led(3), 1);
        due("built anew", x.build(0), 1);
        due("it stands", x.of(0, 8), 1);
        due("and burns", x.pass(1), NOT);
        due("BURNT", x.led(3), 2);
    }

    private static void laidBack() {
        says("It is laid back (HOUSES, CARDS that came since as they are, such HOUSES VISITED 0 times by LED again): NOW. "
            + "STATE: there is none.");
        AskedFire x = asked(1, -1);
        due("none", x.back(), STATE);
        due("image", x.image(), 0);
        x.house(9);
        x.card(1, -1);
        due("HOUSE 0", x.pass(0), 0);
        due("HOUSE 1", x.pass(1), 1);
        due("back", x.back(), 0);
        due("HOUSE 0 stands", x.of(0, 8), 1);
        due("its CARD is not USED", x.of(0, 10), 0);
        due("the CARD that came since is", x.of(1, 10), 1);
        due("HOUSE 1", x.led(11), 0);
        due("VISITS", x.led(1), 0);
    }

    private static void acts() {
        says("BODIES 0 .. 49 are kept by call, of KINDS: 0 MEMBER; 1 CAPTAIN under MEMBER; 2 COOK under MEMBER; 3 PUMP "
            + "under COOK; 4 DANCER under CAPTAIN; 5 GUEST under PUMP; 6 CHILD under MEMBER; 7 CURTAIN under CHILD.");
        int[] above = {-1, 0, 0, 2, 1, 3, 0, 6};
        AskedFire x = gentlemen();
        for (int kind = 0; kind < 8; kind++) {
            x.keep(0, kind);
            due("itself " + kind, x.taken(0, kind), kind);
            due("above " + kind, kind == 0 ? 0 : x.taken(0, above[kind]), kind);
        }
        says("ACTS with x (an int that wraps): 0 comes, 1 dances, 2 regrets, 3 tells; n its number.");
        int[] member = {5, 10, 5, 9};
        for (int act = 0; act < 4; act++) {
            due("MEMBER 0 does " + act, x.act(0, act, 5), member[act]);
        }
    }

    /** BODIES 0 to 7, one of each KIND, so that n is the KIND, too. */
    private static AskedFire gentlemen() {
        AskedFire x = new AskedFire();
        for (int kind = 0; kind < 8; kind++) {
            x.body(kind);
        }
        return x;
    }

    private static void bodiesOfActs() {
        AskedFire x = gentlemen();
        says("BODIES of acts: COMES (an interface of MEMBER): 1 comes: x + n.");
        runs(x, 0, 0, 5, 1);
        says("MEMBER: 10 dances: comes(x) * 2. 11 regrets: x ^ n.");
        runs(x, 0, 1, 10, 10, 1);
        runs(x, 6, 2, 3, 11);
        says("TELLS (of MEMBER): 2 tells: dances(x) - regrets(1).");
        runs(x, 6, 3, 44 - 7, 2, 10, 70, 1, 11);
        says("CAPTAIN: 20 comes: super.comes(x) + 3.");
        runs(x, 1, 0, 9, 20, 1);
        says("COOK: 30 dances: -super.dances(x).");
        runs(x, 2, 1, -14, 30, 10, 1);
        says("PUMP: 40 regrets: super.regrets(x) * 3. 41 dances: super.dances(x + 1).");
        runs(x, 3, 2, 18, 40, 11);
        runs(x, 3, 1, -18, 41, 30, 10, 1);
        says("DANCER: 50 tells: super.tells(x) ^ 5.");
        runs(x, 4, 3, (24 - 5) ^ 5, 50, 2, 10, 20, 1, 11);
        says("GUEST: 60 regrets: super.regrets(x) - comes(2). 61 tells: super.tells(x) + 1.");
        runs(x, 5, 2, -7, 60, 40, 11, 1);
        runs(x, 5, 3, -22 - 5 + 1, 61, 2, 41, 30, 10, 1, 60, 40, 11, 1);
        says("CHILD: 70 comes: super.comes(x) * 2.");
        runs(x, 6, 0, 22, 70, 1);
        says("CURTAIN: 80 dances: super.dances(x) + regrets(2). 81 comes: super.comes(x) - 1.");
        runs(x, 7, 1, 46 + 5, 80, 10, 81, 70, 1, 11);
        runs(x, 7, 0, 23, 81, 70, 1);
        says("comes(..) and so on: the body of its own KIND, or of the next KIND above that has one; super: from the KIND "
            + "above the body's on.");
        runs(x, 4, 0, 12, 20, 1);
        runs(x, 4, 1, 24, 10, 20, 1);
    }

    /** An ACT with 5, and which bodies it runs. */
    private static void runs(AskedFire x, int body, int act, int want, int... trace) {
        due(body + " does " + act, x.act(body, act, 5), want);
        due("bodies that ran", x.count(5), trace.length);
        for (int i = 0; i < trace.length; i++) {
            due("trace " + i + " of " + body + " " + act, x.trace(i), trace[i]);
        }
    }

    private static void shelves() {
        says("The host's REFUSALS: -11 nothing is there where something is wanted; -12 it is of another kind; -13 a place "
            + "that is not there; -14 a size below 0.");
        AskedFire x = gentlemen();
        due("nothing", x.put(0, 0, 1), NOTHING);
        x.keep(0, 3);
        due("a BODY", x.put(0, 0, 1), OTHER);
        x.row(0, 2, 1);
        due("place 1 of 1", x.put(0, 1, 1), NO_PLACE);
        due("size -1", x.row(0, 2, -1), NO_SIZE);
        says("CARDS FROM A ROW of bytes, from place i on: by twos HOUSE, DAY: n of them");
        AskedFire y = bytes(town(3), 2, 9, 2, 7, 1, -1, 0, 3);
        due("cards", y.cards(2, 1, 2), 2);
        due("HOUSE of the first", y.of(0, 9), 2);
        due("DAY of the first", y.of(0, 6), 7);
        due("HOUSE of the second", y.of(1, 9), 1);
        due("DAY of the second", y.of(1, 6), -1);
        says("CARDS FROM A ROW on a SHELF, from place i on, n (1 .. 12) of them: how many came");
        due("the last", y.cards(2, 5, 12), 1);
    }

    private static void answers() {
        says("Answers, of several the one named first: BAD (-1): no such number, or it is not as said; NOT (-2): as told; "
            + "FULL (-3); STATE (-5): as told; -11 to -14. VOID is -2000000000.");
        due("BAD", AskedFire.BAD, -1);
        due("NOT", AskedFire.NOT, -2);
        due("FULL", AskedFire.FULL, -3);
        due("STATE", AskedFire.STATE, -5);
        due("VOID", AskedFire.VOID, -2000000000);
        AskedFire x = at(29, town(6));
        due("BAD ahead of FULL", x.house(144), BAD);
        due("FULL", x.house(0), FULL);
        due("BAD ahead of STATE", x.pass(64), BAD);
        due("STATE", x.pass(63), STATE);
        due("BAD ahead of -14", x.row(0, 5, -1), BAD);
        due("-11 ahead of -13", x.shift(0, -1, 1, 0, 0), NOTHING);
    }

    private static void numbersOfMend() {
        says("CELL (what 0), RISK (1), CAKE (2), FEUD (3), WOOD (4) of a HOUSE, DRY (5) of a DAY, DAY (6) of a CARD, NOW "
            + "(7; number 0) becomes v: what it was. VOID: BAD.");
        AskedFire x = asked(1, 8);
        int[] were = {0, 3, 5, 0, 3, 5, 8, 0};
        for (int what = 0; what < 8; what++) {
            due("mend " + what, x.mend(0, what, 9), were[what]);
            due("of " + what, x.of(0, what), 9);
            due("house 1, card 1, number 1 of NOW", what == 5 ? VOID : x.mend(1, what, 9), VOID);
        }
    }

    private static void part(String what, long above, long below, long wantAbove, long wantBelow) {
        due(what + ", above", above, wantAbove);
        due(what + ", below", below, wantBelow);
    }

    /** From Terms on; what is told of the face and of what is not promised has no call. */
    private static void eachSentenceIsQuoted() throws IOException {
        String text = Files.readString(DOCUMENT);
        text = text.substring(text.indexOf("## Terms") + 8, text.indexOf("## Not promised"));
        text = text.replaceAll("(?m)^## .*$|^`[^`]*`: |^```.*$|^======== \\d? ?", " ").replaceAll("\\s+", " ");
        StringBuilder left = new StringBuilder(text);
        for (String quote : quotes()) {
            for (int i = text.indexOf(quote); i >= 0; i = text.indexOf(quote, i + 1)) {
                for (int k = 0; k < quote.length(); k++) {
                    left.setCharAt(i + k, ' ');
                }
            }
        }
        // What stays are stops between quotes; the titles of the groups were held above.
        String bare = left.toString().replaceAll("Ahead of the calls .*? says: ---- [a-z, ]+", " ");
        says("## Terms");
        for (String words : bare.split("\\s{2,}")) {
            due("no test quotes: " + words, words.matches("[\\s.;:,()]*") ? 0 : 1, 0);
        }
    }

    private static List<String> quotes() throws IOException {
        Pattern said = Pattern.compile("says\\(((?:\"[^\"]*\"\\s*\\+?\\s*)+)\\)");
        List<String> quotes = new ArrayList<>();
        try (Stream<Path> files = Files.list(Path.of("src/test/java"))) {
            for (Path file : files.sorted().toList()) {
                Matcher call = said.matcher(Files.readString(file));
                while (call.find()) {
                    String quote = call.group(1).replaceAll("\"\\s*\\+\\s*\"", "").strip();
                    quotes.add(quote.substring(1, quote.length() - 1));
                }
            }
        }
        return quotes;
    }
}
