import java.util.ArrayList;
import java.util.List;

/** Clubs to begin with, told as calls ("house 13; card 0 5"), and how such calls are made. */
final class Towns {
    static final String NEW = "";

    static final String RICH = """
        house 13; house 40; house 100; house 143; mend 1 1 9; mend 2 1 12; mend 1 2 8; mend 2 3 2; mend 0 4 1;
        mend 2 5 9; mend 1 5 0; card 0 0; card 1 0; card 2 2; card 1 -1; card 0 3; card 2 -1; card 3 6; card 0 -1;
        feed 99; feed 42; feed 50; feed 45; feed 110; law;
        body 0; body 5; body 7; act 1 3 4; pass 8; image; pass 1; build 3; house 60; card 4 -1; mend 4 2 9; pass 0;
        mend 0 1 6; mend 3 6 9; mend 9 5 7; mend 0 7 4; undo; undo; feed 99; feed 43;
        row 0 0 6; put 0 0 1; put 0 1 5; put 0 2 4; put 0 3 -1; put 0 4 2; put 0 5 30; keep 1 1; row 3 1 3; put 3 2 -7;
        row 4 3 2; put 4 1 5000000000; row 5 0 2; put 5 0 3
        """;

    static final String LAST = """
        house 0; house 1; card 0 29; card 1 -1; mend 29 5 9; pass 0; pass 2; mend 0 7 29; image; row 0 0 1; body 3;
        act 0 1 1; mend 0 1 5; undo; feed 33
        """;

    static final String FULLEST = full();

    private Towns() {
    }

    private static String full() {
        StringBuilder calls = new StringBuilder();
        for (int i = 0; i < 6; i++) {
            calls.append("house ").append(20 * i).append(';');
        }
        for (int i = 0; i < 12; i++) {
            calls.append("card ").append(i % 6).append(' ').append(i - 1).append(';');
        }
        for (int i = 0; i < 120; i++) {
            calls.append("feed ").append((int) (i % 2 == 0 ? 'c' : i == 119 ? '?' : '+')).append(';');
        }
        for (int i = 0; i < 50; i++) {
            calls.append("body ").append(i % 8).append(';');
        }
        for (int i = 0; i < 41; i++) {
            calls.append("mend ").append(i % 6).append(" 0 ").append(i + 50).append(';');
        }
        return calls + "row 0 0 24; act 45 3 7";
    }

    static List<String> split(String calls) {
        List<String> list = new ArrayList<>();
        for (String call : calls.split(";")) {
            if (!call.isBlank()) {
                list.add(call.strip());
            }
        }
        return list;
    }

    static long call(Object x, String call) {
        String[] words = call.split("\\s+");
        Number[] args = new Number[words.length - 1];
        for (int i = 0; i < args.length; i++) {
            args[i] = Long.valueOf(words[i + 1]);
        }
        return Bench.answer(x, words[0], args);
    }

    static AskedFire led(String calls) {
        AskedFire x = new AskedFire();
        for (String call : split(calls)) {
            call(x, call);
        }
        return x;
    }
}
