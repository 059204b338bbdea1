/** The edges that Terms 1 and promises 7 to 9 name of THE TAPE, THE LAW and LIKES. */
public final class LawEdgesTest extends Bench {
    private static final String NAMES = "cfdrhn", DIGITS = "0123456789", OPENING = "(!-", JOINING = "|&<=>+-*/%";
    private static final String GREATEST = "2147*1000*1000+483*1000+647";

    public static void main(String[] args) {
        feed();
        tapeIsFull();
        tapeIsEmptyThen();
        faultLeavesTheLaw();
        eachTextForItself();
        firstByte();
        byteBehindAName();
        byteBehindADigit();
        byteWithinBrackets();
        byteBehindBrackets();
        byteBehindASign();
        byteBehindAComparison();
        byteBehindAQuestion();
        noBlanks();
        digits();
        lines();
        lineForms();
        ranks();
        fromTheLeft();
        comparisonsStandAlone();
        open();
        openAndClosed();
        faultAtEachPlace();
        endsTooEarly();
        wraps();
        towardZero();
        byZero();
        oneOrZero();
        allIsWorkedOut();
        firstLineCounts();
        names();
        howOften();
        held();
        withoutAText();
        likes();
        longest();
        end();
    }

    private static int fault(String text) {
        return law(new AskedFire(), text);
    }

    /** What a law gives for house 1, cake 5, feud 0, dry 5, risk 3; brought near 0 by the text itself. */
    private static int worth(String text) {
        AskedFire x = town(2);
        x.card(1, 0);
        due("law " + text, law(x, text), 1);
        return x.likes(0, 0);
    }

    private static void isWorth(String text, int want) {
        due(text, worth(text), want);
    }

    private static void feed() {
        says("A byte (0 .. 255) comes to THE TAPE: how many it has. BAD, FULL (120).");
        within("letter", 0, 255, BAD, v -> new AskedFire().feed(v));
        AskedFire x = new AskedFire();
        for (int i = 1; i <= 120; i++) {
            due("BAD ahead of it", x.feed(256), BAD);
            due("byte " + i, x.feed(i % 256), i);
        }
        due("121", x.feed(0), FULL);
        due("121 of 255", x.feed(255), FULL);
        due("BAD is named first", x.feed(256), BAD);
        due("BAD is named first, below", x.feed(-1), BAD);
        due("count", x.count(2), 120);
    }

    private static void tapeIsFull() {
        says("THE LAW is a TEXT by THE TAPE (at most 120 bytes)");
        AskedFire x = town(1);
        x.card(0, 0);
        String sum = times("1+", 59);
        due("119 bytes", law(x, sum + "1"), 1);
        due("sixty", x.likes(0, 0), 60);
        due("120 bytes", law(x, sum + "12"), 1);
        due("59 and 12", x.likes(0, 0), 71);
        // The 121st is refused, so the text ends with the 120th.
        due("121 bytes", law(x, sum + "123"), 1);
        due("59 and 12 again", x.likes(0, 0), 71);
        due("121 bytes, the last of which is wrong", law(x, sum + "13?"), 1);
        due("59 and 13", x.likes(0, 0), 72);
        due("122 bytes, the last two are lost", law(x, sum + "1+1"), -220);
        due("the law stays", x.likes(0, 0), 72);
    }

    private static void tapeIsEmptyThen() {
        says("THE TAPE becomes THE LAW: 1; -100 less its FAULT; THE TAPE is empty then.");
        String[] texts = {"c", "c+", "+", "", times("1", 120)};
        int[] answers = {1, -102, -100, -100, -104};
        for (int i = 0; i < texts.length; i++) {
            AskedFire x = new AskedFire();
            due("law " + texts[i], law(x, texts[i]), answers[i]);
            due("bytes behind " + texts[i], x.count(2), 0);
            due("once more", x.law(), -100);
            due("the next byte", x.feed('c'), 1);
            due("a law by it alone", x.law(), 1);
        }
    }

    private static void faultLeavesTheLaw() {
        says("THE TAPE becomes THE LAW: 1");
        AskedFire x = asked(1, 0);
        due("no text", x.likes(0, 0), 5);
        due("a fault", law(x, "7+"), -102);
        due("still no text", x.likes(0, 0), 5);
        by("7", x);
        due("by a text", x.likes(0, 0), 7);
        due("a fault", law(x, "8;"), -102);
        due("still 7", x.likes(0, 0), 7);
        due("a fault at once", law(x, "?"), -100);
        due("still 7, then", x.likes(0, 0), 7);
        due("an empty tape", x.law(), -100);
        due("7 as well", x.likes(0, 0), 7);
        x.feed('9');
        due("a tape that is no law yet", x.likes(0, 0), 7);
        due("becomes it", x.law(), 1);
        due("9", x.likes(0, 0), 9);
    }

    private static void eachTextForItself() {
        says("THE TAPE is empty then.");
        String[] texts = {"c", "!c", "-c", "(c)", "-(c)", "c+1", "c*2+1", "c<9", "12", "12?34", "n?3;4", "n?3", "!!!!!!c",
            "((((((c))))))", "1|1&1<1+1*1", "1?2;3?4;5", "!", "-", "(", "((((((", "!!!!!!", "(-!(", "c+", "c<", "c<f", "c<f<d",
            "c?", "c?f?", "n?1;", "n?1;c?", "1234", "12345", "123", "c5", "1c", "(1)5", "(((((((", "((((((c+", "c|f&d=r-1*",
            "", ")", "c)", "?", ";", "1+c5", "7"};
        for (String first : texts) {
            for (String second : texts) {
                AskedFire x = asked(1, 0);
                int answer = law(x, first);
                int before = x.likes(0, 0);
                AskedFire alone = asked(1, 0);
                int want = law(alone, second);
                due("\"" + second + "\" behind \"" + first + "\"", law(x, second), want);
                due("worth of it", x.likes(0, 0), want == 1 ? alone.likes(0, 0) : before);
                due("\"" + first + "\" again", law(x, first), answer);
            }
        }
    }

    private static boolean among(String signs, int letter) {
        return signs.indexOf(letter) >= 0;
    }

    private static void everyByte(String ahead, String whole, String goesOn) {
        for (int letter = 0; letter <= 255; letter++) {
            int want = among(whole, letter) ? 1 : -100 - ahead.length() - (among(goesOn, letter) ? 1 : 0);
            due(ahead + " and byte " + letter, fault(ahead + (char) letter), want);
        }
    }

    private static void firstByte() {
        says("O = a number (1 to 4 digits), a NAME, ! O, - O, ( E )");
        everyByte("", NAMES + DIGITS, OPENING);
    }

    private static void byteBehindAName() {
        says("LINES, one or more, parted by ; .");
        everyByte("c", "", JOINING + "?;");
        everyByte("n", "", JOINING + "?;");
        everyByte("!c", "", JOINING + "?;");
        everyByte("c<f", "", "|&+-*/%?;");
    }

    private static void byteBehindADigit() {
        says("a number (1 to 4 digits)");
        everyByte("1", DIGITS, JOINING + "?;");
        everyByte("123", DIGITS, JOINING + "?;");
        everyByte("1234", "", JOINING + "?;");
        everyByte("0000", "", JOINING + "?;");
        everyByte("1+c", "", JOINING + "?;");
        everyByte("1;c", "", JOINING + "?;");
        everyByte("1?c", "", JOINING + ";");
        everyByte("(1)", "", JOINING + "?;");
        everyByte("1234+1", DIGITS, JOINING + "?;");
    }

    private static void byteWithinBrackets() {
        says("( E )");
        everyByte("(", "", NAMES + DIGITS + OPENING);
        everyByte("(c", ")", JOINING);
        everyByte("(12", ")", JOINING + DIGITS);
        everyByte("(c<f", ")", "|&+-*/%");
        everyByte("((c)", ")", JOINING);
    }

    private static void byteBehindBrackets() {
        says("P = O { * O, / O, % O }.");
        everyByte("(c)", "", JOINING + "?;");
        everyByte("c?(c)", "", JOINING + ";");
    }

    private static void byteBehindASign() {
        says("S = P { + P, - P }.");
        for (char sign : (JOINING + "!").toCharArray()) {
            everyByte(sign == '!' ? "!" : "c" + sign, NAMES + DIGITS, OPENING);
        }
    }

    private static void byteBehindAComparison() {
        says("B = S, or S < S, S = S, S > S.");
        for (char first : "<=>".toCharArray()) {
            everyByte("c" + first + "f", "", "|&+-*/%?;");
            everyByte("c" + first + "f+1*2", DIGITS, "|&+-*/%?;");
            everyByte("c" + first + "f&d", "", JOINING + "?;");
            everyByte("c" + first + "(f<d)", "", "|&+-*/%?;");
        }
    }

    private static void byteBehindAQuestion() {
        says("LINE: E, or E ? E (what counts if the first is not 0).");
        everyByte("c?", NAMES + DIGITS, OPENING);
        everyByte("c?f", "", JOINING + ";");
        everyByte("c;", NAMES + DIGITS, OPENING);
        everyByte("c;f", "", JOINING + "?;");
        everyByte("c?f;d", "", JOINING + "?;");
        everyByte("c?f;d?r", "", JOINING + ";");
    }

    private static void noBlanks() {
        says("No blanks.");
        for (char blank : new char[] {' ', '\t', '\n', '\r', 0}) {
            due("ahead", fault(blank + "c"), -100);
            due("behind", fault("c" + blank), -101);
            due("between", fault("c+" + blank + "f"), -102);
            due("within a number", fault("1" + blank + "2"), -101);
        }
    }

    private static void digits() {
        says("O = a number (1 to 4 digits)");
        for (String number : new String[] {"0", "9", "00", "99", "000", "999", "0000", "9999"}) {
            due(number, fault(number), 1);
        }
        for (String number : new String[] {"00000", "99999", "12345", "000000"}) {
            due(number, fault(number), -104);
            due("c+" + number, fault("c+" + number), -106);
        }
        isWorth("0007", 7);
        isWorth("9999-9990", 9);
        isWorth("1000/100", 10);
        isWorth("1234%100", 34);
        isWorth("10", 10);
    }

    private static void lines() {
        says("LINES, one or more, parted by ;");
        due("none", fault(""), -100);
        due("one", fault("c"), 1);
        due("two", fault("c;f"), 1);
        due("sixty", fault(times("c;", 59) + "c"), 1);
        due("none ahead", fault(";c"), -100);
        due("none behind", fault("c;"), -102);
        due("none between", fault("c;;f"), -102);
    }

    private static void lineForms() {
        says("E ? E (what counts if the first is not 0)");
        due("no first", fault("?c"), -100);
        due("no second", fault("c?"), -102);
        due("two of them", fault("c?f?d"), -103);
        due("in the next line", fault("c?f;d?r;h"), 1);
        due("within brackets", fault("(c?f)"), -102);
        due("; within brackets", fault("(c;f)"), -102);
        isWorth("-1?7", 7);
        isWorth("0?7", 0);
        isWorth("1?7", 7);
        isWorth("1<2?7", 7);
        isWorth("2<1?7", 0);
        isWorth("1|0?0|5", 1);
    }

    private static void ranks() {
        says("E = A { | A }. A = B { & B }.");
        isWorth("1|1&0", 1);
        isWorth("0&0|1", 1);
        isWorth("(1|1)&0", 0);
        isWorth("2&1<2", 1);
        isWorth("1<2&0", 0);
        isWorth("1<(2&0)", 0);
        isWorth("0|2>1", 1);
        says("S = P { + P, - P }.");
        isWorth("1+1<1+2", 1);
        isWorth("1+(1<1)+2", 3);
        isWorth("5=2+3", 1);
        isWorth("2+3>4", 1);
        says("P = O { * O, / O, % O }.");
        isWorth("1+2*3", 7);
        isWorth("2*3+1", 7);
        isWorth("(1+2)*3", 9);
        isWorth("7-6/3", 5);
        isWorth("7-5%3", 5);
        isWorth("-2*3", -6);
        isWorth("!0*3", 3);
        isWorth("!0+3", 4);
        isWorth("!1<2", 1);
        isWorth("-1+3", 2);
    }

    private static void fromTheLeft() {
        says("{ + P, - P }");
        isWorth("9-3-2", 4);
        isWorth("9-3+2", 8);
        isWorth("9-(3+2)", 4);
        says("{ * O, / O, % O }");
        isWorth("24/4/3", 2);
        isWorth("24/4*3", 18);
        isWorth("24/(4*3)", 2);
        isWorth("17%10%4", 3);
        isWorth("17%10*4", 28);
        isWorth("4*17%10", 8);
    }

    private static void comparisonsStandAlone() {
        says("B = S, or S < S, S = S, S > S.");
        for (char first : "<=>".toCharArray()) {
            for (char second : "<=>".toCharArray()) {
                due("c" + first + "f" + second, fault("c" + first + "f" + second + "d"), -103);
                due("(c" + first + "f" + second, fault("(c" + first + "f" + second + "d)"), -104);
                due("brackets", fault("(c" + first + "f)" + second + "d"), 1);
                due("brackets behind", fault("c" + first + "(f" + second + "d)"), 1);
                due("&", fault("c" + first + "f&d" + second + "r"), 1);
                due("|", fault("c" + first + "f|d" + second + "r"), 1);
                due("?", fault("c" + first + "f?d" + second + "r"), 1);
                due(";", fault("c" + first + "f;d" + second + "r"), 1);
            }
            due("the same sign twice", fault("c" + first + first), -102);
        }
        isWorth("1<2", 1);
        isWorth("2<2", 0);
        isWorth("3<2", 0);
        isWorth("1=2", 0);
        isWorth("2=2", 1);
        isWorth("3=2", 0);
        isWorth("1>2", 0);
        isWorth("2>2", 0);
        isWorth("3>2", 1);
    }

    private static void open() {
        says("At most 6 of ( ! - ahead of an O are open at once.");
        for (int length = 0; length <= 7; length++) {
            int all = (int) Math.pow(3, length);
            for (int i = 0; i < all; i++) {
                String signs = "";
                int worth = 5;
                for (int rest = i, k = 0; k < length; k++, rest /= 3) {
                    int sign = rest % 3;
                    signs = "(!-".charAt(sign) + signs;
                    worth = sign == 0 ? worth : sign == 1 ? (worth == 0 ? 1 : 0) : -worth;
                }
                String text = signs + "c" + times(")", (int) signs.chars().filter(c -> c == '(').count());
                AskedFire x = asked(1, 0);
                due(text, law(x, text), length <= 6 ? 1 : -106);
                due("worth of " + text, x.likes(0, 0), length <= 6 ? worth : 5);
            }
        }
    }

    private static void openAndClosed() {
        says("are open at once");
        due("six, closed, six", fault("((((((c))))))+((((((c))))))"), 1);
        due("six, closed, seven", fault("((((((c))))))+(((((((c)))))))"), -120);
        due("five, closed one, two more", fault("(((((c)+((c))))))"), 1);
        due("six, closed one, two more", fault("((((((c)+((c)))))))"), -110);
        due("! is closed by its O", fault(times("!c+", 20) + "!c"), 1);
        due("- is closed by its O", fault(times("-1+", 20) + "-1"), 1);
        due("! stays open over its brackets", fault("!(!(!(c+d)))"), 1);
        due("! stays open over its brackets, one more", fault("!(!(!(c+!d)))"), -108);
        due("! is closed behind its brackets", fault("(!(c)+((((c)))))"), 1);
        due("five brackets behind it", fault("(!(c)+(((((c))))))"), 1);
        due("six brackets behind it", fault("(!(c)+((((((c)))))))"), -111);
        due("- between is not ahead of an O", fault("((((((c-f))))))"), 1);
        due("- behind - is", fault("((((((c--f))))))"), -108);
        due("- behind - within five", fault("(((((c--f)))))"), 1);
        due("a number ends", fault("(((((-1+(2))))))"), 1);
        due("a new line begins anew", fault("!!!!!!c;!!!!!!c"), 1);
        due("behind ? anew", fault("((((((c))))))?!!!!!!c"), 1);
        due("seven behind ?", fault("((((((c))))))?!!!!!!!c"), -120);
        due("brackets lack", fault("((((((c)))))"), -112);
        due("one too many", fault("((((((c)))))))"), -113);
    }

    private static void faultAtEachPlace() {
        says("FAULT: the place (from 0) of the first byte with which no TEXT goes on");
        for (int place = 0; place < 120; place++) {
            String ahead = times("c+", 60).substring(0, place);
            due("place " + place, fault(ahead + "x"), -100 - place);
            due("a sign that stands nowhere else, at " + place, fault(ahead + (char) 255), -100 - place);
            due("the first of two, at " + place, fault(ahead + "xx"), -100 - place);
        }
        due("a byte behind the fault does not count", fault("c c+"), -101);
        due("nor what lacks", fault("((c d"), -103);
    }

    private static void endsTooEarly() {
        says("the length, if it ends too early");
        for (int length = 0; length <= 120; length++) {
            String text = times("c+", 60).substring(0, length);
            due("length " + length, fault(text), length % 2 == 1 ? 1 : -100 - length);
        }
        due("an open bracket", fault("(c"), -102);
        due("two", fault("((c)"), -104);
        due("a question", fault("c?"), -102);
        due("! alone", fault("!"), -101);
    }

    private static void wraps() {
        says("Ints that wrap");
        isWorth(GREATEST, 99);
        isWorth(GREATEST + "+1", -99);
        isWorth("(" + GREATEST + "+1)/1000/1000", -99);
        isWorth("(" + GREATEST + ")/1000/1000/30", 71);
        isWorth("(" + GREATEST + "+1)/1000/1000/30", -71);
        isWorth("-(" + GREATEST + "+1)/1000/1000/30", -71);
        isWorth("(-(" + GREATEST + ")-1)/1000/1000/30", -71);
        isWorth("(-(" + GREATEST + ")-2)/1000/1000/30", 71);
        isWorth("(" + GREATEST + "+1)/-1/1000/1000/30", -71);
        isWorth("(" + GREATEST + "+1)%-1", 0);
        isWorth("4096*4096*127", 99);
        isWorth("4096*4096*128", -99);
        isWorth("4096*4096*256", 0);
        isWorth("4096*4096*256+7", 7);
        isWorth("9999*9999*9999%100", (int) (9999L * 9999L * 9999L) % 100);
    }

    private static void towardZero() {
        says("/ and % toward 0");
        String[] texts = {"7/2", "-7/2", "7/-2", "-7/-2", "7%2", "-7%2", "7%-2", "-7%-2", "1/2", "-1/2", "-1%2", "6/3",
            "-6/3", "-6%3", "5/6", "6/6", "7/6"};
        int[] worths = {3, -3, -3, 3, 1, -1, 1, -1, 0, 0, -1, 2, -2, 0, 0, 1, 1};
        for (int i = 0; i < texts.length; i++) {
            isWorth(texts[i], worths[i]);
        }
    }

    private static void byZero() {
        says("by 0 they give 0");
        for (String text : new String[] {"7/0", "7%0", "0/0", "0%0", "-7/0", "-7%0", "7/n", "7%n", "7/(c-5)", "7%(c-5)"}) {
            isWorth(text, 0);
            isWorth(text + "+4", 4);
        }
        isWorth("7/1", 7);
        isWorth("7/-1", -7);
        isWorth("7%1", 0);
    }

    private static void oneOrZero() {
        says("| & < = > ! give 1, 0");
        for (int a = -2; a <= 2; a++) {
            isWorth("!(" + a + ")", a == 0 ? 1 : 0);
            isWorth("!!(" + a + ")", a == 0 ? 0 : 1);
            for (int b = -2; b <= 2; b++) {
                isWorth("(" + a + ")|(" + b + ")", a != 0 || b != 0 ? 1 : 0);
                isWorth("(" + a + ")&(" + b + ")", a != 0 && b != 0 ? 1 : 0);
                isWorth("(" + a + ")<(" + b + ")", a < b ? 1 : 0);
                isWorth("(" + a + ")=(" + b + ")", a == b ? 1 : 0);
                isWorth("(" + a + ")>(" + b + ")", a > b ? 1 : 0);
            }
        }
        isWorth("(2|0)+(3&4)", 2);
        isWorth("4096*4096*128<0", 1);
        isWorth("0<4096*4096*128", 0);
    }

    private static void allIsWorkedOut() {
        says("all is worked out");
        isWorth("1|7/0", 1);
        isWorth("0&7%0", 0);
        isWorth("5;7/0", 5);
        isWorth("0?7/0;6", 6);
    }

    private static void firstLineCounts() {
        says("The first LINE without a first E, or whose first E is not 0, counts; none: 0.");
        isWorth("3;4", 3);
        isWorth("0;4", 0);
        isWorth("-3;4", -3);
        isWorth("0?3;4", 4);
        isWorth("1?3;4", 3);
        isWorth("-1?3;4", 3);
        isWorth("1?0;4", 0);
        isWorth("0?3;0?4", 0);
        isWorth("0?3;1?4", 4);
        isWorth("0?3;0?4;5", 5);
        isWorth("0?3;0?4;0?5;0?6;7", 7);
        isWorth("0?3;2?4;1?5;6", 4);
        isWorth("0?3;4;5", 4);
        isWorth(times("0?1;", 29) + "8", 8);
        isWorth(times("0?1;", 29) + "1?8", 8);
        isWorth(times("0?1;", 29) + "0?8", 0);
        isWorth("c-5?3;c-4?9;4", 9);
    }

    private static void names() {
        says("NAMES: c CAKE, f FEUD, d DRY of the day, r RISK, h the HOUSE, n how often the club has been there already");
        for (int house = 0; house < 6; house++) {
            AskedFire x = town(6);
            x.card(house, 29);
            x.mend(house, 1, 12 - house);
            x.mend(house, 2, 9 - house);
            x.mend(house, 3, house + 3);
            x.mend(17, 5, 8);
            String[] texts = {"c", "f", "d", "r", "h", "n"};
            int[] worths = {9 - house, house + 3, 8, 12 - house, house, 0};
            for (int i = 0; i < texts.length; i++) {
                by(texts[i], x);
                due(texts[i] + " of " + house, x.likes(0, 17), worths[i]);
            }
            by("d", x);
            due("dry of the day ahead", x.likes(0, 16), 5);
            due("dry of the day behind", x.likes(0, 18), 5);
        }
        AskedFire edges = asked(1, 0);
        by("c*9+f", edges);
        edges.mend(0, 2, 0);
        due("least", edges.likes(0, 0), 0);
        edges.mend(0, 2, 9);
        edges.mend(0, 3, 9);
        due("most", edges.likes(0, 0), 90);
    }

    private static void howOften() {
        says("(in deed, as LED, and in thought since NOW)");
        AskedFire x = by("n+1", town(2));
        x.card(0, 1);
        x.card(0, 2);
        x.card(0, 4);
        x.card(1, 28);
        due("day 0", x.likes(0, 0), 1);
        due("day 1", x.likes(0, 1), 1);
        due("day 2", x.likes(0, 2), 2);
        due("day 3", x.likes(0, 3), 3);
        due("day 4", x.likes(0, 4), 3);
        due("day 5", x.likes(0, 5), 4);
        due("day 29", x.likes(0, 29), 4);
        says("n in THE LAW: of the HOUSE.");
        due("the other, day 28", x.likes(3, 28), 1);
        due("the other, day 29", x.likes(3, 29), 2);
        due("another card of the house", x.likes(2, 5), 4);
        x.pass(0);
        x.pass(0);
        due("one in deed, NOW 2", x.likes(0, 2), 2);
        due("one in deed, one in thought", x.likes(0, 3), 3);
        x.mend(0, 7, 5);
        due("days ahead of NOW in thought do not count", x.likes(0, 5), 2);
        x.mend(0, 7, 0);
        due("days of deeds come anew in thought", x.likes(0, 5), 5);
    }

    private static void held() {
        says("It gives how much the club LIKES a CARD for a day (held within -99 .. 99).");
        int[] numbers = {0, 1, 97, 98, 99, 100, 101, 9999};
        for (int number : numbers) {
            isWorth("" + number, Math.min(number, 99));
            isWorth("-" + number, -Math.min(number, 99));
        }
        isWorth(GREATEST, 99);
        isWorth("-(" + GREATEST + ")", -99);
        isWorth("-(" + GREATEST + ")-1", -99);
    }

    private static void withoutAText() {
        says("Without a text: c, less f, less n.");
        AskedFire x = asked(1, 0);
        for (int cake = 0; cake <= 9; cake += 3) {
            for (int feud = 0; feud <= 9; feud += 3) {
                x.mend(0, 2, cake);
                x.mend(0, 3, feud);
                due("cake " + cake + ", feud " + feud, x.likes(0, 0), cake - feud);
            }
        }
        AskedFire y = town(1);
        for (int day = 0; day < 8; day++) {
            y.card(0, day);
        }
        for (int day = 0; day < 8; day++) {
            due("day " + day, y.likes(0, day), Math.max(0, 5 - day));
            due("accepted " + day, y.accepts(day, 0), day < 5 ? day : NOT);
        }
    }

    private static void likes() {
        says("How much the club LIKES a CARD for a day (NOW or later; whether it may be ACCEPTED or not). VOID: BAD.");
        for (int now : new int[] {0, 1, 14, 28, 29}) {
            within("day, NOW " + now, now, 29, VOID, v -> at(now, asked(1, 3)).likes(0, v));
        }
        within("card", 0, 0, VOID, v -> asked(1, 3).likes(v, 0));
        AskedFire x = asked(2, 3);
        x.card(1, -1);
        due("not for that day", x.likes(0, 2), 5);
        due("on its day", x.likes(0, 3), 5);
        due("behind its day", x.likes(0, 4), 4);
        x.pass(1);
        due("of one that stands no more", x.likes(0, 1), 5);
        due("a used one", x.likes(1, 1), 4);
        x.mend(1, 3, 9);
        due("below 0", x.likes(1, 1), -5);
    }

    private static void longest() {
        says("At most 6 of ( ! - ahead of an O are open at once.");
        isWorth(times("-1+", 39) + "45", 6);
        isWorth(times("1*(", 6) + "2" + times(")", 6), 2);
        // Each bracket keeps one value of each rank waiting; six of them are the most that can wait.
        String deep = times("0|1&1<1+1*(", 6) + "7" + times(")", 6);
        due("deep", law(new AskedFire(), deep), 1);
        isWorth(deep, 1);
        isWorth(times("0|1&9>1+1*(", 6) + "7" + times(")", 6), 1);
    }
}
