import java.util.ArrayList;
import java.util.List;

/**
 * "What is answered so changes nothing": each refusal on one of two objects that were led alike; all that later calls
 * show, and what undo(), redo(), back(), law() and days in deed do then, must be the same on both.
 */
public final class RefusalTest extends Bench {
    private static final int MOST_CALLS = 512;

    // Wrong in every state.
    private static final String ALWAYS = """
        house -1 = -1; house 144 = -1; card -1 0 = -1; card 6 0 = -1; card 0 -2 = -1; card 0 30 = -1;
        cards -1 0 1 = -1; cards 6 0 1 = -1; cards 0 0 0 = -1; cards 0 0 13 = -1; cards 0 0 -1 = -1;
        mend -1 0 1 = V; mend 6 0 1 = V; mend 0 0 -1 = V; mend 0 0 144 = V; mend 0 1 -1 = V; mend 0 1 13 = V;
        mend 0 2 -1 = V; mend 0 2 10 = V; mend 0 3 -1 = V; mend 0 3 10 = V; mend 0 4 0 = V; mend 0 4 10 = V;
        mend 0 5 -1 = V; mend 0 5 10 = V; mend -1 5 1 = V; mend 30 5 1 = V; mend -1 6 1 = V; mend 12 6 1 = V;
        mend 0 6 -2 = V; mend 0 6 30 = V; mend 0 7 -1 = V; mend 0 7 30 = V; mend 1 7 1 = V; mend -1 7 1 = V;
        mend 0 8 0 = V; mend 0 9 0 = V; mend 0 10 1 = V; mend 0 -1 1 = V;
        of -1 0 = V; of 6 0 = V; of 30 5 = V; of 12 6 = V; of 1 7 = V; of 6 8 = V; of 12 9 = V; of 12 10 = V; of 0 11 = V;
        of 0 -1 = V; feed -1 = -1; feed 256 = -1; likes -1 29 = V; likes 12 29 = V; likes 0 -1 = V; likes 0 30 = V;
        accepts -1 0 = -1; accepts 30 0 = -1; accepts 29 2 = -1; accepts 29 -1 = -1;
        visits -1 29 = -1; visits 6 29 = -1; visits 0 -1 = -1; visits 0 30 = -1; first 2 = -1; first -1 = -1;
        odds -1 0 = -1; odds 6 0 = -1; odds 0 -1 = -1; odds 0 30 = -1;
        burns -1 1 0 = N; burns 6 1 0 = N; burns 0 -1 0 = N; burns 0 9 0 = N; burns 0 1 2 = N; burns 0 1 -1 = N;
        mean -1 0 = N; mean 5 0 = N; mean 1 2 = N; mean 1 -1 = N; plan -1 0 = N; plan 5 0 = N; plan 1 2 = N; plan 1 -1 = N;
        planned -1 0 = -1; planned 5 0 = -1; planned 0 0 = -1; planned 4 4 = -1; planned 4 -1 = -1;
        ask -1 = -1; ask 6 = -1; sweeten -1 29 0 = -1; sweeten 6 29 0 = -1; sweeten 0 30 0 = -1; sweeten 0 29 2 = -1;
        sweeten 0 -1 1 = -1; sweeten 0 29 -1 = -1;
        evening -1 0 = -1; evening 64 0 = -1; evening 0 -3 = -1; evening 0 0 = -2;
        belief -1 0 6 0 = N; belief 6 0 6 0 = N; belief 0 -1 6 0 = N; belief 0 6 6 0 = N; belief 0 0 -1 0 = N;
        belief 0 0 13 0 = N; belief 0 0 6 2 = N; belief 0 0 6 -1 = N; lists -1 = -1; lists 3 = -1;
        judge -1 = -1; judge 6 = -1; read -1 0 0 = -1; read 6 0 0 = -1; read 0 -1 0 = -1; read 0 6 0 = -1;
        read 0 0 -1 = -1; read 0 0 4 = -1; drawn 1 0 -1 = -1; drawn 1 31 -1 = -1; drawn 1 1 -2 = -1; drawn 1 1 6 = -1;
        pass -1 = -1; pass 64 = -1; build -1 = -1; build 6 = -1; led -1 = -1; led 5 = -1; led 9 = -1; led 16 = -1;
        body -1 = -1; body 8 = -1; trace -1 = -1; trace 10 = -1; trace 24 = -1;
        keep -1 -1 = -1; keep 6 -1 = -1; keep 0 -2 = -1; keep 0 50 = -1; row -1 0 1 = -1; row 6 0 1 = -1; row 0 -1 1 = -1;
        row 0 5 1 = -1; row 0 0 61 = -1; row 0 0 -1 = -14; row 0 4 -1 = -14; row 0 5 -1 = -1;
        put -1 0 1 = -1; put 6 0 1 = -1; element -1 0 = N; element 6 0 = N; element 0 -1 = N; element 0 60 = N;
        shift -1 0 0 0 0 = -1; shift 6 0 0 0 0 = -1; shift 0 0 -1 0 0 = -1; shift 0 0 6 0 0 = -1;
        taken -1 0 = -1; taken 6 0 = -1; taken 0 -1 = -1; taken 0 8 = -1; count -1 = -1; count 6 = -1
        """;

    private static final String OF_NEW = """
        card 0 0 = -1; mend 0 0 1 = V; mend 0 6 1 = V; of 0 8 = V; likes 0 0 = V; accepts 0 0 = -2; accepts 29 1 = -2;
        planned 1 0 = -2; ask 0 = -1; judge 0 = -11; pass 1 = -1; build 0 = -1; back = -5; undo = -5; redo = -5;
        trace 0 = -1; keep 0 0 = -1; put 0 0 1 = -11; element 0 0 = N; shift 0 0 1 0 0 = -11; taken 0 0 = -11;
        cards 0 0 1 = 0; led 10 = -1; drawn 1 1 0 = -1; belief 0 0 6 0 = N; evening 1 0 = -1
        """;

    private static final String OF_RICH = """
        card 5 0 = -1; cards 3 0 1 = -12; cards 1 0 1 = -12; cards 4 -1 1 = -12; cards 2 0 1 = 0; cards 0 -1 1 = 0;
        cards 0 4 1 = 0; cards 0 5 1 = 0; cards 0 6 1 = 0; cards 0 1 3 = 0; mend 5 0 1 = V; mend 9 6 1 = V; of 9 6 = V;
        likes 9 29 = V; likes 0 0 = V; accepts 2 0 = -1; accepts 29 0 = -2; accepts 29 1 = -2; visits 0 2 = -1;
        ask 5 = -1; sweeten 0 2 0 = -1; sweeten 0 29 0 = -2; sweeten 0 29 1 = -2; evening 31 5 = -2; evening 32 0 = -1;
        belief 1 0 6 0 = N; belief 2 0 6 0 = N; belief 3 0 6 0 = N; judge 2 = -11; judge 1 = -12; judge 3 = -12;
        read 2 0 0 = -11; read 1 0 0 = -12; read 4 0 3 = -12; read 5 0 1 = -2; read 5 0 3 = -2; read 2 0 4 = -1;
        pass 32 = -1; build 1 = -5; build 3 = -5; build 5 = -1; led 15 = -1; keep 2 3 = -1; put 2 0 1 = -11; put 1 0 1 = -12;
        put 0 6 1 = -13; put 0 -1 1 = -13; put 3 3 1 = -13; element 2 0 = N; element 1 0 = N; element 0 6 = N;
        shift 2 0 0 0 0 = -11; shift 0 0 2 0 0 = -11; shift 1 0 0 0 0 = -12; shift 0 0 1 0 0 = -12; shift 0 0 3 0 1 = -12;
        shift 0 0 4 0 1 = -12; shift 0 0 5 0 3 = -13; shift 0 5 5 0 2 = -13; shift 0 0 5 0 -1 = -13; shift 0 -1 5 0 1 = -13;
        shift 0 0 5 -1 1 = -13; shift 0 2147483647 5 0 1 = -13; taken 2 0 = -11; taken 0 0 = -12; taken 1 1 = -12;
        taken 1 6 = -12; row 0 0 61 = -1; row 1 3 -1 = -14
        """;

    private static final String OF_LAST = """
        pass 0 = -5; pass 3 = -5; pass 4 = -1; build 0 = -5; accepts 28 0 = -1; visits 0 28 = -1; likes 0 28 = V;
        sweeten 0 28 0 = -1; sweeten 1 29 1 = -2; house 144 = -1
        """;

    private static final String OF_FULLEST = """
        house 0 = -3; house 143 = -3; house 144 = -1; card 0 0 = -3; card 5 -1 = -3; card 5 30 = -1; feed 0 = -3;
        feed 255 = -3; feed 256 = -1; body 0 = -3; body 7 = -3; body 8 = -1; ask 0 = -2; ask 5 = -2; redo = -5;
        cards 0 0 1 = 0; cards 0 0 12 = 0; evening 63 6 = -2; back = -5; build 0 = -5; planned 4 4 = -1
        """;

    public static void main(String[] args) {
        says("What is answered so changes nothing.");
        compare("a new one", Towns.NEW, ALWAYS + ";" + OF_NEW);
        compare("a rich one", Towns.RICH, ALWAYS + ";" + OF_RICH);
        compare("the last day", Towns.LAST, ALWAYS + ";" + OF_LAST);
        compare("a full one", Towns.FULLEST, ALWAYS + ";" + OF_FULLEST);
        says("IN THOUGHT, from NOW on, no fires");
        thoughtsChangeNothing("a new one", Towns.NEW);
        thoughtsChangeNothing("a rich one", Towns.RICH);
        thoughtsChangeNothing("the last day", Towns.LAST);
        thoughtsChangeNothing("a full one", Towns.FULLEST);
        eachForItself();
        end();
    }

    private static void compare(String state, String calls, String refusals) {
        List<String> looks = looks();
        List<String> deeds = deeds();
        int most = Towns.split(calls).size() + 1 + looks.size() + deeds.size();
        due(state + ": within 512 calls, " + most, most <= MOST_CALLS ? 1 : 0, 1);
        AskedFire plain = Towns.led(calls);
        List<Long> want = answers(plain, looks);
        want.addAll(answers(plain, deeds));
        for (String refusal : Towns.split(refusals)) {
            String[] sides = refusal.split("=");
            AskedFire x = Towns.led(calls);
            due(state + ": " + sides[0], Towns.call(x, sides[0]), refusalOf(sides[1].strip()));
            List<Long> got = answers(x, looks);
            got.addAll(answers(x, deeds));
            for (int i = 0; i < want.size(); i++) {
                String look = i < looks.size() ? looks.get(i) : deeds.get(i - looks.size());
                due(state + ": behind " + sides[0] + ", " + look + " (" + i + ")", got.get(i), want.get(i));
            }
        }
    }

    private static long refusalOf(String text) {
        return text.equals("V") ? VOID : text.equals("N") ? NONE : Long.parseLong(text);
    }

    private static List<Long> answers(AskedFire x, List<String> calls) {
        List<Long> list = new ArrayList<>();
        for (String call : calls) {
            list.add(Towns.call(x, call));
        }
        return list;
    }

    /** Calls that only tell: all that a later call can show of the state. */
    private static List<String> looks() {
        List<String> list = new ArrayList<>();
        for (int house = 0; house < 6; house++) {
            for (int what : new int[] {0, 1, 2, 3, 4, 8}) {
                list.add("of " + house + " " + what);
            }
            list.add("led " + (10 + house));
            list.add("ask " + house);
            list.add("odds " + house + " 29");
            list.add("burns " + house + " 8 1");
        }
        for (int card = 0; card < 12; card++) {
            list.add("of " + card + " 6");
            list.add("of " + card + " 9");
            list.add("of " + card + " 10");
            list.add("likes " + card + " 29");
        }
        for (int day : new int[] {0, 1, 9, 12, 29}) {
            list.add("of " + day + " 5");
        }
        for (int i = 0; i < 6; i++) {
            list.add("count " + i);
            list.add("led " + i);
            list.add("taken " + i + " 0");
            list.add("element " + i + " 0");
            list.add("element " + i + " 2");
            list.add("trace " + i);
            list.add("trace " + (i + 5));
        }
        list.addAll(Towns.split("of 0 7; first 0; first 1; lists 0; lists 1; lists 2; plan 2 0; plan 2 1; planned 2 0; judge 0; "
            + "drawn 5 2 -1; accepts 29 0; accepts 10 0; evening 3 -2; mean 3 0; element 0 5; element 4 1"));
        return list;
    }

    /** Calls that bring to light what only deeds show: changes kept, the image, THE TAPE, THE LAW. */
    private static List<String> deeds() {
        List<String> list = new ArrayList<>(Towns.split("redo; redo; redo; redo"));
        for (int i = 0; i < 42; i++) {
            list.add("undo");
        }
        list.addAll(Towns.split("of 0 0; of 0 1; redo; redo; count 3; feed 99; law; likes 0 29; count 2; pass 1; pass 1; of 0 8; "
            + "of 0 7; led 3; back; of 0 7; of 0 8; led 0; led 1; house 1; card 0 29; body 3; cards 0 0 2; keep 2 0; "
            + "taken 2 0; likes 0 29; drawn 3 1 0"));
        return list;
    }

    private static void thoughtsChangeNothing(String state, String calls) {
        String thoughts = "likes 0 29; accepts 29 1; visits 0 29; first 0; first 1; odds 0 29; burns 0 8 0; mean 4 0; plan 4 0; "
            + "planned 4 3; ask 0; ask 1; sweeten 0 29 0; sweeten 1 29 1; sweeten 1 10 0; evening 3 0; evening 1 -2; "
            + "belief 0 0 6 0; lists 0; lists 1; lists 2; judge 0; read 0 0 0; read 0 1 3; drawn 9 30 -1; trace 0; "
            + "element 0 0; taken 1 0; count 5; of 0 0; led 0";
        AskedFire plain = Towns.led(calls);
        List<Long> want = answers(plain, looks());
        want.addAll(answers(plain, deeds()));
        for (String thought : Towns.split(thoughts)) {
            AskedFire x = Towns.led(calls);
            long first = Towns.call(x, thought);
            due(state + ": once more " + thought, Towns.call(x, thought), first);
            List<Long> got = answers(x, looks());
            got.addAll(answers(x, deeds()));
            due(state + ": all alike behind " + thought, got.equals(want) ? 1 : 0, 1);
        }
    }

    /** Two objects led turn by turn answer as each does when it is led alone. */
    private static void eachForItself() {
        says("All memory is the class's own.");
        AskedFire rich = new AskedFire();
        AskedFire full = new AskedFire();
        List<String> first = Towns.split(Towns.RICH);
        List<String> second = Towns.split(Towns.FULLEST);
        for (int i = 0; i < Math.max(first.size(), second.size()); i++) {
            if (i < first.size()) {
                Towns.call(rich, first.get(i));
            }
            if (i < second.size()) {
                Towns.call(full, second.get(i));
            }
        }
        AskedFire richAlone = Towns.led(Towns.RICH);
        AskedFire fullAlone = Towns.led(Towns.FULLEST);
        List<String> all = looks();
        all.addAll(deeds());
        for (String call : all) {
            long wantOfRich = Towns.call(richAlone, call);
            long wantOfFull = Towns.call(fullAlone, call);
            due("the rich one beside another: " + call, Towns.call(rich, call), wantOfRich);
            due("the full one beside another: " + call, Towns.call(full, call), wantOfFull);
        }
    }
}
