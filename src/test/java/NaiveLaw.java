/** THE LAW read straight from its text by descent, each time anew; the other way than the class goes. */
final class NaiveLaw {
    private final String text;
    private final int[] names;
    private int at;
    int fault = -1;

    /** names: the numbers of c, f, d, r, h, n. */
    NaiveLaw(String text, int... names) {
        this.text = text;
        this.names = names;
    }

    static final class Wrong extends RuntimeException {
        private static final long serialVersionUID = 1;
    }

    static int faultOf(String text) {
        NaiveLaw law = new NaiveLaw(text, 0, 0, 0, 0, 0, 0);
        try {
            law.lines();
            return -1;
        } catch (Wrong e) {
            return law.at;
        }
    }

    int lines() {
        Integer counts = null;
        while (true) {
            int first = or(0);
            Integer line = first;
            if (peek() == '?') {
                at++;
                int second = or(0);
                line = first != 0 ? second : null;
            }
            if (counts == null) {
                counts = line;
            }
            if (at == text.length()) {
                return counts == null ? 0 : counts;
            }
            if (peek() != ';') {
                throw new Wrong();
            }
            at++;
        }
    }

    private int peek() {
        return at < text.length() ? text.charAt(at) : -1;
    }

    private int or(int open) {
        int v = and(open);
        while (peek() == '|') {
            at++;
            int w = and(open);
            v = v != 0 | w != 0 ? 1 : 0;
        }
        return v;
    }

    private int and(int open) {
        int v = compared(open);
        while (peek() == '&') {
            at++;
            int w = compared(open);
            v = v != 0 & w != 0 ? 1 : 0;
        }
        return v;
    }

    private int compared(int open) {
        int v = sum(open);
        int sign = peek();
        if (sign != '<' && sign != '=' && sign != '>') {
            return v;
        }
        at++;
        int w = sum(open);
        return (sign == '<' ? v < w : sign == '=' ? v == w : v > w) ? 1 : 0;
    }

    private int sum(int open) {
        int v = product(open);
        while (peek() == '+' || peek() == '-') {
            int sign = text.charAt(at++);
            int w = product(open);
            v = sign == '+' ? v + w : v - w;
        }
        return v;
    }

    private int product(int open) {
        int v = one(open);
        while (peek() == '*' || peek() == '/' || peek() == '%') {
            int sign = text.charAt(at++);
            int w = one(open);
            v = sign == '*' ? v * w : w == 0 ? 0 : sign == '/' ? v / w : v % w;
        }
        return v;
    }

    private int one(int open) {
        int sign = peek();
        if (sign == '(' || sign == '!' || sign == '-') {
            if (open == 6) {
                throw new Wrong();
            }
            at++;
            if (sign == '!') {
                return one(open + 1) == 0 ? 1 : 0;
            }
            if (sign == '-') {
                return -one(open + 1);
            }
            int v = or(open + 1);
            if (peek() != ')') {
                throw new Wrong();
            }
            at++;
            return v;
        }
        if (sign >= '0' && sign <= '9') {
            int v = 0;
            for (int i = 0; i < 4 && peek() >= '0' && peek() <= '9'; i++) {
                v = v * 10 + peek() - '0';
                at++;
            }
            return v;
        }
        int name = sign < 0 ? -1 : "cfdrhn".indexOf(sign);
        if (name < 0) {
            throw new Wrong();
        }
        at++;
        return names[name];
    }
}
