/** Promises 27 to 29: the VOICES against Java's own classes, which find BODIES just as the document tells. */
public final class VoicesTest {
    private static final Due due = new Due();
    private static final StringBuilder trace = new StringBuilder();

    private static class Guest {
        final int n;
        final int m;

        Guest(int n, int m) {
            this.n = n;
            this.m = m;
        }

        int dances(int x) {
            trace.append("10 ");
            return x + n;
        }

        int sighs(int x) {
            trace.append("11 ");
            return dances(x) * 2;
        }

        int looks(int x) {
            trace.append("12 ");
            return x - m;
        }

        int tells(int x) {
            trace.append("13 ");
            return sighs(x) ^ looks(x);
        }
    }

    private static class Girl extends Guest {
        Girl(int n, int m) {
            super(n, m);
        }

        @Override int dances(int x) {
            trace.append("20 ");
            return super.dances(x) * 3;
        }
    }

    private static class Fellow extends Guest {
        Fellow(int n, int m) {
            super(n, m);
        }

        @Override int sighs(int x) {
            trace.append("30 ");
            return super.sighs(x) - looks(1);
        }
    }

    private static class Chaperone extends Guest {
        Chaperone(int n, int m) {
            super(n, m);
        }

        @Override int looks(int x) {
            trace.append("40 ");
            return -super.looks(x);
        }
    }

    private static final class Beauty extends Girl {
        Beauty(int n, int m) {
            super(n, m);
        }

        @Override int tells(int x) {
            trace.append("50 ");
            return super.tells(x) - dances(2);
        }
    }

    private static final class Fiance extends Fellow {
        Fiance(int n, int m) {
            super(n, m);
        }

        @Override int sighs(int x) {
            trace.append("60 ");
            return super.sighs(x + 1);
        }
    }

    private static final class Aunt extends Chaperone {
        Aunt(int n, int m) {
            super(n, m);
        }

        @Override int looks(int x) {
            trace.append("70 ");
            return super.looks(x) ^ n;
        }

        @Override int tells(int x) {
            trace.append("71 ");
            return sighs(x) - super.tells(x);
        }
    }

    public static void main(String[] args) {
        seed();
        int[] xs = {0, 1, -1, 4, 1000, Integer.MAX_VALUE, Integer.MIN_VALUE, 0x40000000};
        for (int kind = 0; kind < 7; kind++) {
            for (int m = 0; m < 10; m++) {
                for (int x : xs) {
                    compare(kind, m, x);
                }
            }
        }
        trace();
        due.end();
    }

    private static void seed() {
        RegretPegs x = new RegretPegs();
        due.is("27 at first", x.seed(Integer.MIN_VALUE), 1);
        due.is("27 any number", x.seed(Due.BEYOND), Integer.MIN_VALUE);
        due.is("27 is", x.count(9), Due.BEYOND);
        due.is("27 one that looks like an error", x.seed(0), Due.BEYOND);
        due.is("27 no error was told", x.told(1), 0);
    }

    private static Guest of(int kind, int n, int m) {
        switch (kind) {
            case 1: return new Girl(n, m);
            case 2: return new Fellow(n, m);
            case 3: return new Chaperone(n, m);
            case 4: return new Beauty(n, m);
            case 5: return new Fiance(n, m);
            case 6: return new Aunt(n, m);
            default: return new Guest(n, m);
        }
    }

    private static int said(Guest guest, int act, int x) {
        trace.setLength(0);
        switch (act) {
            case 0: return guest.dances(x);
            case 1: return guest.sighs(x);
            case 2: return guest.looks(x);
            default: return guest.tells(x);
        }
    }

    private static void compare(int kind, int m, int number) {
        RegretPegs x = Due.ball(0, 0, 0, 0, 0, 0, 10 * kind + m, 0);
        for (int guest = 0; guest < 4; guest += 3) {
            for (int act = 0; act < 4; act++) {
                Guest model = of(guest == 3 ? kind : 0, guest, guest == 3 ? m : 0);
                int want = said(model, act, number);
                due.is("28 voice of " + kind + ", act " + act, x.voice(guest, act, number), want);
                StringBuilder bodies = new StringBuilder();
                for (int i = 0; i < x.count(8); i++) {
                    bodies.append(x.trace(i)).append(' ');
                }
                due.isTrue("29 trace " + bodies + "due " + trace, bodies.toString().equals(trace.toString()));
            }
        }
    }

    private static void trace() {
        RegretPegs x = Due.ball(65, 0);
        due.is("29 none yet", x.trace(0), Due.NONE);
        x.voice(0, 3, 1);
        int bodies = x.count(8);
        due.is("29 nine", bodies, 9);
        due.is("29 first", x.trace(0), 71);
        due.is("29 the place behind", x.trace(9), Due.NONE);
        due.is("29 below", x.trace(-1), Due.NONE);
        due.is("29 far", x.trace(Integer.MAX_VALUE), Due.NONE);
        due.is("28 no such guest", x.voice(1, 0, 0), Due.BEYOND);
        due.is("28 guest below", x.voice(-1, 0, 0), Due.BEYOND);
        due.is("28 act 4", x.voice(0, 4, 0), Due.BEYOND);
        due.is("28 act below", x.voice(0, -1, 0), Due.BEYOND);
        due.is("29 stays", x.count(8), 9);
        x.voice(0, 0, 1);
        due.is("29 of the latest alone", x.count(8), 1);
        due.is("29 no other", x.trace(1), Due.NONE);
        RegretPegs y = Due.ball(0, 0);
        due.is("28 one that looks like an error", y.voice(0, 0, Due.NONE), Due.NONE);
        due.is("28 no error was told", y.told(2), 0);
    }
}
