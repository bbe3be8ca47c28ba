import java.util.List;

/** The document's KINDS as Java's own classes, so that Java itself says which body runs. */
final class NaiveKinds {
    static final List<Class<?>> CLASSES = List.of(No.class, Friend.class, Beggar.class, Child.class,
        Bride.class, Rich.class, Half.class, Mint.class);

    interface Offers {
        int number();

        void begins(int body);

        default int offers(int x) { begins(1); return x + number(); }
    }

    interface Tells {
        int notches(int x);

        int takes(int x);

        void begins(int body);

        default int tells(int x) { begins(2); return notches(x) - takes(1); }
    }

    static class No implements Offers, Tells {
        int n;
        List<Integer> trace;

        public int number() { return n; }
        public void begins(int body) { trace.add(body); }
        public int notches(int x) { begins(10); return offers(x) * 2; }
        public int takes(int x) { begins(11); return x ^ n; }
    }

    static class Friend extends No {
        public int offers(int x) { begins(20); return super.offers(x) + 3; }
    }

    static class Beggar extends No {
        public int notches(int x) { begins(30); return -super.notches(x); }
    }

    static class Child extends Beggar {
        public int takes(int x) { begins(40); return super.takes(x) * 3; }
        public int notches(int x) { begins(41); return super.notches(x + 1); }
    }

    static class Bride extends Friend {
        public int tells(int x) { begins(50); return super.tells(x) ^ 5; }
    }

    static class Rich extends Child {
        public int takes(int x) { begins(60); return super.takes(x) - offers(2); }
        public int tells(int x) { begins(61); return super.tells(x) + 1; }
    }

    static class Half extends No {
        public int offers(int x) { begins(70); return super.offers(x) * 2; }
    }

    static class Mint extends Half {
        public int notches(int x) { begins(80); return super.notches(x) + takes(2); }
        public int offers(int x) { begins(81); return super.offers(x) - 1; }
    }

    static No made(int kind, int number, List<Integer> trace) {
        No self = switch (kind) {
            case 0 -> new No();
            case 1 -> new Friend();
            case 2 -> new Beggar();
            case 3 -> new Child();
            case 4 -> new Bride();
            case 5 -> new Rich();
            case 6 -> new Half();
            default -> new Mint();
        };
        self.n = number;
        self.trace = trace;
        return self;
    }

    private NaiveKinds() { }
}
