import java.util.ArrayList;
import java.util.List;

/** The KINDS as Java's own classes, whose machine finds the bodies of the acts. */
final class NaiveBodies {
    static List<Integer> ran = new ArrayList<>();

    private static void began(int body) {
        ran.add(body);
    }

    interface Comes {
        int n();

        default int comes(int x) {
            began(1);
            return x + n();
        }
    }

    interface Tells {
        int dances(int x);

        int regrets(int x);

        default int tells(int x) {
            began(2);
            return dances(x) - regrets(1);
        }
    }

    static class Member implements Comes, Tells {
        int n;
        int kind;

        public int n() {
            return n;
        }

        public int dances(int x) {
            began(10);
            return comes(x) * 2;
        }

        public int regrets(int x) {
            began(11);
            return x ^ n;
        }
    }

    static class Captain extends Member {
        public int comes(int x) {
            began(20);
            return super.comes(x) + 3;
        }
    }

    static class Cook extends Member {
        public int dances(int x) {
            began(30);
            return -super.dances(x);
        }
    }

    static class Pump extends Cook {
        public int regrets(int x) {
            began(40);
            return super.regrets(x) * 3;
        }

        public int dances(int x) {
            began(41);
            return super.dances(x + 1);
        }
    }

    static class Dancer extends Captain {
        public int tells(int x) {
            began(50);
            return super.tells(x) ^ 5;
        }
    }

    static class Guest extends Pump {
        public int regrets(int x) {
            began(60);
            return super.regrets(x) - comes(2);
        }

        public int tells(int x) {
            began(61);
            return super.tells(x) + 1;
        }
    }

    static class Child extends Member {
        public int comes(int x) {
            began(70);
            return super.comes(x) * 2;
        }
    }

    static class Curtain extends Child {
        public int dances(int x) {
            began(80);
            return super.dances(x) + regrets(2);
        }

        public int comes(int x) {
            began(81);
            return super.comes(x) - 1;
        }
    }

    static final Class<?>[] KINDS = {Member.class, Captain.class, Cook.class, Pump.class,
        Dancer.class, Guest.class, Child.class, Curtain.class};

    static Member make(int kind, int n) {
        Member made = switch (kind) {
            case 0 -> new Member();
            case 1 -> new Captain();
            case 2 -> new Cook();
            case 3 -> new Pump();
            case 4 -> new Dancer();
            case 5 -> new Guest();
            case 6 -> new Child();
            default -> new Curtain();
        };
        made.n = n;
        made.kind = kind;
        return made;
    }

    static int act(Member body, int act, int x) {
        return switch (act) {
            case 0 -> body.comes(x);
            case 1 -> body.dances(x);
            case 2 -> body.regrets(x);
            default -> body.tells(x);
        };
    }
}
