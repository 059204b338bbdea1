/** The edges that Terms 4 and promises 26 to 32 name: days in deed, LED, images, CHANGES. */
public final class DeedEdgesTest extends Bench {
    public static void main(String[] args) {
        passFires();
        passVisits();
        passAtDay29();
        passCountsOnce();
        build();
        led();
        ledOfEachHouse();
        image();
        backWithoutOne();
        backKeepsWhatCameSince();
        backLeavesWhatIsMended();
        undo();
        redo();
        sameNumberIsNone();
        allNumbersOfMend();
        noOtherCameBehind();
        fortyAtMost();
        fortyAndUndone();
        deedsAreNone();
        nowByDeeds();
        the512thCall();
        end();
    }

    private static void passFires() {
        says("A day passes, HOUSES burn (bits): which is VISITED (NOT). BAD; STATE: it is day 29.");
        for (int n = 0; n <= 6; n++) {
            for (int bad : new int[] {-1, 1 << n, MIN, MAX}) {
                AskedFire x = town(n);
                due(n + " houses, fires " + bad, x.pass(bad), BAD);
                due("no day passed", x.of(0, 7), 0);
                due("none is led", x.led(0), 0);
            }
            AskedFire none = town(n);
            due("no fires", none.pass(0), NOT);
            AskedFire all = town(n);
            due("all burn", all.pass((1 << n) - 1), NOT);
            due("all are burnt", all.led(3), n);
            for (int house = 0; house < n; house++) {
                AskedFire one = town(n);
                one.pass(1 << house);
                for (int other = 0; other < n; other++) {
                    due(house + " burnt, of " + other, one.of(other, 8), other == house ? 0 : 1);
                }
                due("one is burnt", one.led(3), 1);
                due(house + " stood, of all", all.of(house, 8), 0);
            }
        }
    }

    private static void passVisits() {
        says("the club VISITS one by THE LAW, those that burn and are not VISITED are BURNT");
        AskedFire x = town(2);
        x.card(1, 0);
        due("1 is visited", x.pass(3), 1);
        due("1 stands", x.of(1, 8), 1);
        due("0 is burnt", x.of(0, 8), 0);
        due("nobody is visited", x.pass(2), NOT);
        due("1 is burnt", x.of(1, 8), 0);
        AskedFire y = asked(1, 0);
        y.mend(0, 2, 0);
        due("not liked, not visited", y.pass(1), NOT);
        due("burnt", y.of(0, 8), 0);
    }

    private static void passAtDay29() {
        says("a day passes (29 at most)");
        AskedFire x = town(1);
        for (int day = 0; day < 29; day++) {
            due("day " + day, x.of(0, 7), day);
            due("passes", x.pass(0), NOT);
        }
        due("day 29", x.of(0, 7), 29);
        due("it does not pass", x.pass(0), STATE);
        due("nor with fires", x.pass(1), STATE);
        due("BAD is named first", x.pass(2), BAD);
        due("BAD is named first, below", x.pass(-1), BAD);
        due("29 still", x.of(0, 7), 29);
        due("29 days led", x.led(0), 29);
        due("it stands", x.of(0, 8), 1);
        AskedFire y = asked(1, -1);
        due("28", at(28, y).pass(0), 0);
        due("then 29", y.pass(0), STATE);
        y.mend(0, 7, 27);
        due("mended back it passes again", y.pass(0), NOT);
    }

    private static void passCountsOnce() {
        says("LED: days, VISITS, saved ones (VISITED and burning), BURNT ones, built ones, how often each HOUSE was VISITED.");
        AskedFire x = town(3);
        x.card(0, 0);
        x.card(0, 1);
        x.card(1, 2);
        int[] fires = {1, 6, 7, 7};
        int[][] sums = {{1, 1, 1, 0}, {2, 2, 1, 2}, {3, 2, 1, 3}, {4, 2, 1, 3}};
        int[] visited = {0, 0, NOT, NOT};
        for (int day = 0; day < 4; day++) {
            due("day " + day, x.pass(fires[day]), visited[day]);
            for (int what = 0; what < 4; what++) {
                due("led " + what + " behind day " + day, x.led(what), sums[day][what]);
            }
        }
        due("visits of 0", x.led(10), 2);
        due("visits of 1, which was burnt by then", x.led(11), 0);
        due("visits of 2", x.led(12), 0);
        due("built", x.led(4), 0);
        x.build(1);
        due("built once", x.led(4), 1);
        due("burnt as before", x.led(3), 3);
        x.pass(2);
        due("burnt again", x.led(3), 4);
    }

    private static void build() {
        says("A HOUSE is built anew: 1. BAD; STATE: it stands.");
        AskedFire x = town(2);
        due("it stands", x.build(0), STATE);
        due("no such house", x.build(2), BAD);
        due("below", x.build(-1), BAD);
        due("none is built", x.led(4), 0);
        x.pass(1);
        due("the other stands", x.build(1), STATE);
        due("it is built", x.build(0), 1);
        due("stands", x.of(0, 8), 1);
        due("built", x.led(4), 1);
        due("it stands again", x.build(0), STATE);
        due("built once", x.led(4), 1);
        x.mend(0, 1, 9);
        x.pass(1);
        x.build(0);
        due("its numbers are as they were", x.of(0, 1), 9);
        due("built twice", x.led(4), 2);
    }

    private static void led() {
        says("LED: days (what 0), VISITS (1), saved (2), BURNT (3), built (4), how often HOUSE h was VISITED (10 and h). BAD.");
        for (int n = 0; n <= 6; n++) {
            AskedFire x = town(n);
            for (int what : new int[] {MIN, -1, 5, 6, 7, 8, 9, 10 + n, 11 + n, 16, MAX}) {
                due(n + " houses, what " + what, x.led(what), BAD);
            }
            for (int what = 0; what <= 4; what++) {
                due("what " + what, x.led(what), 0);
            }
            for (int house = 0; house < n; house++) {
                due("house " + house, x.led(10 + house), 0);
            }
        }
    }

    private static void ledOfEachHouse() {
        says("how often each HOUSE was VISITED");
        AskedFire x = by("1", town(6));
        for (int house = 0; house < 6; house++) {
            x.card(house, house);
            x.card(house, 6 + house);
        }
        for (int day = 0; day < 12; day++) {
            due("day " + day, x.pass(0), day % 6);
            for (int house = 0; house < 6; house++) {
                due("of " + house + " behind " + day, x.led(10 + house), (day / 6) + (house <= day % 6 ? 1 : 0));
            }
            due("visits", x.led(1), day + 1);
        }
    }

    private static void image() {
        says("AN IMAGE keeps NOW, what stands, which CARDS are USED, what LED tells.");
        AskedFire x = town(3);
        x.card(0, -1);
        x.card(1, -1);
        x.card(2, 5);
        x.pass(5);
        x.build(2);
        x.pass(6);
        due("image", x.image(), 2);
        String before = deeds(x);
        x.pass(1);
        x.build(0);
        x.build(2);
        x.pass(0);
        x.mend(0, 7, 5);
        x.pass(4);
        due("something has changed", deeds(x).equals(before) ? 1 : 0, 0);
        due("back", x.back(), 2);
        due("all is as it was: " + before + ", now " + deeds(x), deeds(x).equals(before) ? 1 : 0, 1);
        x.pass(1);
        due("back again", x.back(), 2);
        due("as it was once more", deeds(x).equals(before) ? 1 : 0, 1);
        says("AN IMAGE is kept: NOW.");
        for (int now : new int[] {0, 1, 28, 29}) {
            x.mend(0, 7, now);
            due("image, NOW " + now, x.image(), now);
            x.mend(0, 7, 7);
            due("the latest is laid back", x.back(), now);
            due("NOW", x.of(0, 7), now);
        }
    }

    private static String deeds(AskedFire x) {
        StringBuilder text = new StringBuilder();
        text.append(x.of(0, 7));
        for (int i = 0; i < 6; i++) {
            text.append(' ').append(x.of(i, 8)).append(' ').append(x.of(i, 10)).append(' ').append(x.led(10 + i));
        }
        for (int what = 0; what <= 4; what++) {
            text.append(' ').append(x.led(what));
        }
        return text.toString();
    }

    private static void backWithoutOne() {
        says("NOW. STATE: there is none.");
        AskedFire x = town(1);
        due("none", x.back(), STATE);
        x.pass(1);
        due("none still", x.back(), STATE);
        due("nothing is laid back", x.of(0, 8), 0);
        due("NOW", x.of(0, 7), 1);
        x.image();
        due("one", x.back(), 1);
        due("of a new object", imageOfNew(), 0);
    }

    private static int imageOfNew() {
        AskedFire x = new AskedFire();
        x.image();
        x.house(3);
        x.card(0, -1);
        x.pass(1);
        x.pass(1);
        int now = x.back();
        due("the house is there", x.count(0), 1);
        due("its card is there", x.count(1), 1);
        due("burnt as it is", x.of(0, 8), 0);
        due("used as it is", x.of(0, 10), 1);
        due("visited 0 times", x.led(10), 0);
        for (int what = 0; what <= 4; what++) {
            due("led " + what, x.led(what), 0);
        }
        return now;
    }

    private static void backKeepsWhatCameSince() {
        says("(HOUSES, CARDS that came since as they are, such HOUSES VISITED 0 times by LED again)");
        AskedFire x = town(2);
        x.card(0, -1);
        x.image();
        x.house(7);
        x.house(8);
        x.card(2, -1);
        x.card(3, 1);
        x.card(0, -1);
        x.mend(2, 2, 9);
        due("2 is visited", x.pass(10), 2);
        due("0 is visited", x.pass(0), 0);
        due("3 was burnt", x.of(3, 8), 0);
        due("visits of 2", x.led(12), 1);
        due("back", x.back(), 0);
        due("0 stands", x.of(0, 8), 1);
        due("1 stands again", x.of(1, 8), 1);
        due("2 stands as it does", x.of(2, 8), 1);
        due("3 does not, as it is", x.of(3, 8), 0);
        due("card 0 is not used, as then", x.of(0, 10), 0);
        due("card 1 is used, as it is", x.of(1, 10), 1);
        due("card 2 is not", x.of(2, 10), 0);
        due("card 3 is not", x.of(3, 10), 0);
        due("visits of 0, as then", x.led(10), 0);
        due("visits of 2, 0 again", x.led(12), 0);
        due("visits of 3", x.led(13), 0);
        due("visits", x.led(1), 0);
        due("houses", x.count(0), 4);
        due("cards", x.count(1), 4);
        due("n is 0 again", x.likes(1, 0), 9);
    }

    private static void backLeavesWhatIsMended() {
        says("AN IMAGE keeps NOW, what stands");
        AskedFire x = asked(1, 9);
        x.image();
        x.mend(0, 1, 7);
        x.mend(0, 6, 8);
        x.mend(3, 5, 1);
        x.mend(0, 7, 4);
        law(x, "1");
        due("back", x.back(), 0);
        due("risk", x.of(0, 1), 7);
        due("day of the card", x.of(0, 6), 8);
        due("dry", x.of(3, 5), 1);
        due("the law", x.likes(0, 0), 1);
        due("changes", x.count(3), 4);
        due("undone, NOW is what it was", x.undo(), 3);
        due("NOW", x.of(0, 7), 0);
        due("done again", x.redo(), 0);
        due("NOW 4", x.of(0, 7), 4);
    }

    private static void undo() {
        says("UNDONE: how many may still be. STATE: none.");
        AskedFire x = town(1);
        due("none", x.undo(), STATE);
        x.mend(0, 1, 4);
        due("one may be", x.count(3), 1);
        due("undone", x.undo(), 0);
        due("risk", x.of(0, 1), 3);
        due("none then", x.undo(), STATE);
        due("count", x.count(3), 0);
        for (int i = 0; i < 5; i++) {
            x.mend(0, 0, 10 + i);
        }
        for (int i = 4; i >= 0; i--) {
            due("of five", x.undo(), i);
            due("the latest first", x.of(0, 0), i == 0 ? 0 : 9 + i);
        }
        due("none again", x.undo(), STATE);
    }

    private static void redo() {
        says("DONE AGAIN: how many may still be. STATE: none.");
        AskedFire x = town(1);
        due("none", x.redo(), STATE);
        x.mend(0, 1, 4);
        due("none is undone", x.redo(), STATE);
        due("risk stays", x.of(0, 1), 4);
        x.undo();
        due("done again", x.redo(), 0);
        due("risk", x.of(0, 1), 4);
        due("none then", x.redo(), STATE);
        x.mend(0, 1, 5);
        x.mend(0, 1, 6);
        x.undo();
        x.undo();
        x.undo();
        due("one of three", x.redo(), 2);
        due("risk 4", x.of(0, 1), 4);
        due("two", x.redo(), 1);
        due("risk 5", x.of(0, 1), 5);
        due("may be undone", x.count(3), 2);
        due("three", x.redo(), 0);
        due("risk 6", x.of(0, 1), 6);
        due("all may be undone", x.count(3), 3);
    }

    private static void sameNumberIsNone() {
        says("(all numbers of mend(); telling the same number is none)");
        AskedFire x = asked(1, 4);
        int[] same = {0, 3, 5, 0, 3, 5, 4, 0};
        for (int what = 0; what <= 7; what++) {
            due("the same of " + what, x.mend(0, what, same[what]), same[what]);
            due("no change by " + what, x.count(3), 0);
        }
        x.mend(0, 1, 4);
        x.undo();
        x.mend(0, 1, 3);
        x.mend(0, 2, 5);
        due("it ends no redo", x.redo(), 0);
        due("risk", x.of(0, 1), 4);
    }

    private static void allNumbersOfMend() {
        says("CHANGES (all numbers of mend()");
        AskedFire x = asked(1, 4);
        int[] first = {0, 3, 5, 0, 3, 5, 4, 0};
        int[] then = {143, 12, 9, 9, 9, 9, -1, 29};
        for (int what = 0; what <= 7; what++) {
            x.mend(0, what, then[what]);
            due("change of " + what, x.count(3), what + 1);
        }
        for (int what = 7; what >= 0; what--) {
            due("undone " + what, x.undo(), what);
            due("number " + what, x.of(0, what), first[what]);
        }
        for (int what = 0; what <= 7; what++) {
            due("done again " + what, x.redo(), 7 - what);
            due("number " + what, x.of(0, what), then[what]);
        }
        AskedFire y = town(6);
        for (int i = 0; i < 12; i++) {
            y.card(0, 3);
        }
        y.mend(5, 1, 7);
        y.mend(11, 6, 8);
        y.mend(29, 5, 9);
        y.undo();
        due("dry of 29", y.of(29, 5), 5);
        y.undo();
        due("day of 11", y.of(11, 6), 3);
        y.undo();
        due("risk of 5", y.of(5, 1), 3);
    }

    private static void noOtherCameBehind() {
        says("and DONE AGAIN (as long as no other came behind)");
        AskedFire x = town(1);
        x.mend(0, 1, 4);
        x.mend(0, 1, 5);
        x.undo();
        x.undo();
        x.mend(0, 2, 9);
        due("another came", x.redo(), STATE);
        due("risk", x.of(0, 1), 3);
        due("the other may be undone", x.count(3), 1);
        due("it is", x.undo(), 0);
        due("cake", x.of(0, 2), 5);
        due("it may be done again", x.redo(), 0);
        due("cake again", x.of(0, 2), 9);
        x.undo();
        x.mend(0, 2, 10);
        x.mend(1, 2, 1);
        due("a refused one is no other", x.redo(), 0);
    }

    private static AskedFire changed(int n) {
        AskedFire x = town(1);
        for (int i = 1; i <= n; i++) {
            x.mend(0, 0, i);
        }
        return x;
    }

    private static void fortyAtMost() {
        says("40 at most are kept");
        for (int n : new int[] {38, 39, 40, 41, 42, 80, 81, 100}) {
            AskedFire x = changed(n);
            int kept = Math.min(n, 40);
            due(n + " changes", x.count(3), kept);
            for (int i = kept - 1; i >= 0; i--) {
                due("undone", x.undo(), i);
                due("cell", x.of(0, 0), n - kept + i);
            }
            due("no more of " + n, x.undo(), STATE);
            due("cell at the end", x.of(0, 0), n - kept);
            for (int i = 0; i < kept; i++) {
                due("done again", x.redo(), kept - 1 - i);
                due("cell again", x.of(0, 0), n - kept + i + 1);
            }
            due("none is left of " + n, x.redo(), STATE);
        }
    }

    private static void fortyAndUndone() {
        says("can be UNDONE, the latest first, and DONE AGAIN");
        AskedFire x = changed(40);
        x.undo();
        x.mend(0, 0, 100);
        due("the one in its place is the fortieth", x.count(3), 40);
        due("none may be done again", x.redo(), STATE);
        for (int i = 0; i < 40; i++) {
            x.undo();
        }
        due("the first is still kept", x.of(0, 0), 0);
        AskedFire y = changed(45);
        y.undo();
        y.undo();
        due("38 left", y.count(3), 38);
        y.mend(0, 0, 120);
        due("39", y.count(3), 39);
        y.mend(0, 0, 121);
        due("40", y.count(3), 40);
        y.mend(0, 0, 122);
        due("40 still", y.count(3), 40);
        for (int i = 0; i < 40; i++) {
            y.undo();
        }
        due("one more of the old is gone", y.of(0, 0), 6);
    }

    private static void deedsAreNone() {
        says("deeds are none (NOW by them, too)");
        AskedFire x = asked(1, -1);
        x.mend(0, 1, 4);
        x.mend(0, 1, 5);
        x.undo();
        x.pass(0);
        x.pass(1);
        x.build(0);
        x.house(5);
        x.card(1, 3);
        x.image();
        x.back();
        law(x, "c");
        x.row(0, 0, 2);
        x.cards(0, 0, 1);
        x.body(0);
        due("one may be undone", x.count(3), 1);
        due("one may be done again", x.redo(), 0);
        due("risk", x.of(0, 1), 5);
        x.undo();
        due("and the one ahead", x.undo(), 0);
        due("risk at first", x.of(0, 1), 3);
        due("the deeds stay", x.of(0, 7), 2);
        due("the card is used", x.of(0, 10), 1);
    }

    private static void nowByDeeds() {
        says("(NOW by them, too)");
        AskedFire x = town(1);
        x.mend(0, 7, 5);
        x.pass(0);
        x.pass(0);
        due("NOW 7", x.of(0, 7), 7);
        due("one change", x.count(3), 1);
        due("undone", x.undo(), 0);
        due("NOW as it was ahead of the change", x.of(0, 7), 0);
        x.pass(0);
        due("done again", x.redo(), 0);
        due("NOW as it was told", x.of(0, 7), 5);
        x.pass(0);
        due("telling what it is by deeds is none", x.mend(0, 7, 6), 6);
        due("one change still", x.count(3), 1);
    }

    private static void the512thCall() {
        says("An object is used for at most 512 calls after it has been made");
        AskedFire x = new AskedFire();
        x.house(0);
        x.card(0, 0);
        x.feed('1');
        x.law();
        for (int i = 1; i <= 250; i++) {
            due("visit " + i, x.pass(1), 0);
            due("back to day 0", x.mend(0, 7, 0), 1);
        }
        // 504 calls so far.
        due("days", x.led(0), 250);
        due("visits", x.led(1), 250);
        due("saved", x.led(2), 250);
        due("of the house", x.led(10), 250);
        due("changes", x.count(3), 40);
        due("a name", x.feed('n'), 1);
        due("a law", x.law(), 1);
        due("the 512th: held within 99", x.likes(0, 0), 99);
    }
}
