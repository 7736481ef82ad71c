import java.util.Random;

/**
 * Promises 12, 13, 15 to 26, 38: what is only thought against what comes of it when it is done, on new objects that
 * are made the same by calls.
 */
public final class CrossTest {
    private static final Due due = new Due();
    private static final String[] DANCING = {"", "r-m", "o", "(r+o)/2+m-4", "r*(r<o)+o*(!(r<o))", "r%7*o+m", "0"};
    private static final String[] SHIFTS = {"", "d>3", "m", "p%2", "d>m&p<3", "0", "d%2|p=0"};

    private static Random random;

    /** What an object is made from, again and again, so that no object is used for more calls than are promised. */
    private static final class State {
        String dancing = DANCING[random.nextInt(DANCING.length)];
        String shifts = SHIFTS[random.nextInt(SHIFTS.length)];
        final int size = random.nextInt(8);
        final int[] km = new int[size];
        final int[] rue = new int[size];
        final int[] danced = new int[size];
        final int[] idle = new int[size];
        final int[] order = new int[size];

        State() {
            int range = random.nextBoolean() ? 1000 : 30;
            for (int i = 0; i < size; i++) {
                km[i] = random.nextInt(70);
                rue[i] = random.nextInt(range);
                danced[i] = random.nextInt(3) == 0 ? 997 + random.nextInt(3) : random.nextInt(2);
                idle[i] = random.nextInt(4) == 0 ? 0 : 1;
                int at = random.nextInt(i + 1);
                order[i] = order[at];
                order[at] = i;
            }
        }

        RegretPegs make() {
            RegretPegs x = new RegretPegs();
            if (!dancing.isEmpty()) {
                due.is("10 text " + dancing, Due.text(x, 0, dancing), 1);
            }
            if (!shifts.isEmpty()) {
                due.is("10 text " + shifts, Due.text(x, 1, shifts), 1);
            }
            for (int i = 0; i < size; i++) {
                x.guest(km[i], rue[i]);
                x.change(i, 1, danced[i]);
                x.change(i, 2, idle[i]);
            }
            for (int p = 0; p < size; p++) {
                x.hang(p, x.ofGuest(order[p], 5));
            }
            return x;
        }
    }

    public static void main(String[] args) {
        for (int run = 0; run < 400; run++) {
            random = new Random(1000 + run);
            State x = new State();
            thoughtHours(x);
            hourByHand(x);
            danceByHand(x);
            orders(x);
            told(x);
            if (x.size > 0) {
                partners(x, random.nextInt(x.size));
                needed(x, random.nextInt(x.size), random.nextInt(x.size), random.nextInt(7));
                who(x);
            }
        }
        due.end();
    }

    private static void pair(RegretPegs x, int one, int other) {
        x.change(one, 2, 1);
        x.change(other, 2, 1);
        x.dance(one, other);
    }

    private static int pegBehind(RegretPegs x, int guest, int n) {
        if (n > 0) {
            x.hours(n);
        }
        return x.ofGuest(guest, 5);
    }

    private static void thoughtHours(State x) {
        int size = x.size;
        int guest = size == 0 ? 0 : random.nextInt(size);
        int last = Due.NONE;
        int right = Due.NONE;
        RegretPegs y = x.make();
        RegretPegs z = x.make();
        for (int n = 0; n <= 60; n++) {
            if (n > 0) {
                y.hours(1);
            }
            if (last == Due.NONE && y.count(5) == guest) {
                last = n;
            }
            if (right == Due.NONE && y.wrongs() == 0) {
                right = n;
            }
            due.is("24 allRue", z.allRue(n), y.count(2));
            if (size > 0) {
                due.is("15 rue", z.then(n, guest, 0), y.ofGuest(guest, 2));
                due.is("15 peg", z.then(n, guest, 1), y.ofGuest(guest, 5));
            }
            if (size > 0 && n % 10 == 0) {
                int who = 0;
                for (int i = 1; i < size; i++) {
                    who = y.ofGuest(i, 2) > y.ofGuest(who, 2) ? i : who;
                }
                due.is("25 who", z.sorriest(n, 0), who);
                due.is("25 rue", z.sorriest(n, 1), y.ofGuest(who, 2));
            }
        }
        due.is("20 inOrder", z.inOrder(), right);
        if (size > 0) {
            due.is("16 last", z.last(guest), last);
        }
    }

    private static void hourByHand(State x) {
        RegretPegs y = x.make();
        int size = x.size;
        int[] rue = new int[size];
        int[] order = new int[size];
        for (int i = 0; i < size; i++) {
            int more = y.ofGuest(i, 4) == 1 ? y.ofGuest(i, 6) : 0;
            rue[i] = Math.max(0, Math.min(999, y.ofGuest(i, 2) + more));
            order[i] = y.peg(i);
        }
        for (int p = 0; p + 1 < size; p++) {
            int ahead = order[p];
            int behind = order[p + 1];
            int differs = rue[ahead] - rue[behind];
            if (differs > 0 && y.law(1, differs, y.ofGuest(ahead, 1), p) != 0) {
                order[p] = behind;
                order[p + 1] = ahead;
            }
        }
        y.hours(1);
        for (int i = 0; i < size; i++) {
            due.is("13 rue", y.ofGuest(i, 2), rue[i]);
            due.is("13 order", y.peg(i), order[i]);
            due.is("13 idle", y.ofGuest(i, 4), 1);
        }
    }

    private static void danceByHand(State x) {
        if (x.size < 2) {
            return;
        }
        RegretPegs y = x.make();
        int one = random.nextInt(x.size);
        int other = (one + 1 + random.nextInt(x.size - 1)) % x.size;
        int ofOne = y.law(0, y.ofGuest(one, 2), y.ofGuest(other, 2), y.ofGuest(one, 1));
        int ofOther = y.law(0, y.ofGuest(other, 2), y.ofGuest(one, 2), y.ofGuest(other, 1));
        int was = y.ofGuest(one, 3);
        pair(y, one, other);
        due.is("12 rue of one", y.ofGuest(one, 2), ofOne);
        due.is("12 rue of the other", y.ofGuest(other, 2), ofOther);
        due.is("12 danced", y.ofGuest(one, 3), Math.min(999, was + 1));
    }

    private static void orders(State x) {
        int size = x.size;
        int wrong = 0;
        for (int p = 0; p < size; p++) {
            for (int q = p + 1; q < size; q++) {
                wrong += x.rue[x.order[p]] > x.rue[x.order[q]] ? 1 : 0;
            }
        }
        due.is("21 wrongs", x.make().wrongs(), wrong);
        int best = -1;
        for (int one = 0; one < size; one++) {
            for (int other = one + 1; other < size; other++) {
                RegretPegs y = x.make();
                y.hang(y.ofGuest(one, 5), y.ofGuest(other, 5));
                if (y.wrongs() < wrong) {
                    wrong = y.wrongs();
                    best = 10 * one + other;
                }
            }
        }
        due.is("22 swap", x.make().swap(), best);
    }

    private static void told(State x) {
        RegretPegs y = x.make();
        RegretPegs z = x.make();
        int lie = random.nextInt(30);
        for (int i = 0; i < 20; i++) {
            y.tell(z.hours(1) + (i == lie ? 1 : 0));
        }
        due.is("38 check", y.check(), lie < 20 ? 1 + lie : 0);
    }

    private static void partners(State x, int guest) {
        int size = x.size;
        int n = random.nextInt(21);
        int peg = random.nextInt(size);
        int partner = -1;
        int partnerPeg = 7;
        int goes = -1;
        int goesPeg = 7;
        int good = 0;
        for (int other = 0; other < size; other++) {
            if (other == guest) {
                continue;
            }
            RegretPegs y = x.make();
            pair(y, guest, other);
            int then = pegBehind(y, guest, n);
            if (then < partnerPeg) {
                partnerPeg = then;
                partner = other;
            }
            good += then <= peg ? 1 : 0;
            RegretPegs z = x.make();
            z.change(other, 0, 0);
            then = pegBehind(z, guest, n);
            if (then < goesPeg) {
                goesPeg = then;
                goes = other;
            }
        }
        RegretPegs w = x.make();
        due.is("17 who", w.partner(guest, n, 0), size == 1 ? Due.NONE : partner);
        due.is("17 peg", w.partner(guest, n, 1), size == 1 ? Due.NONE : partnerPeg);
        due.is("23 go", w.go(guest, n), size == 1 ? Due.NONE : goes);
        int above = w.odds(guest, peg, n, 0);
        int below = w.odds(guest, peg, n, 1);
        if (size > 1) {
            due.is("26 odds", above * (size - 1), good * below);
            due.isTrue("26 lowest", java.math.BigInteger.valueOf(above).gcd(java.math.BigInteger.valueOf(below))
                .intValue() == 1 && below > 0);
        }
    }

    private static void needed(State x, int guest, int peg, int n) {
        int size = x.size;
        int least = pegBehind(x.make(), guest, n) <= peg ? 0 : 3;
        int first = -1;
        for (int many = 1; many <= 2 && least == 3; many++) {
            for (int code = 0; code < size * size * size * size && least == 3; code++) {
                int a = code / size / size / size;
                int b = code / size / size % size;
                int c = code / size % size;
                int d = code % size;
                if (a >= b || c >= d) {
                    continue;
                }
                RegretPegs y = x.make();
                pair(y, a, b);
                if (many == 2) {
                    pair(y, c, d);
                }
                if (pegBehind(y, guest, n) <= peg) {
                    least = many;
                    first = 10 * a + b;
                }
            }
        }
        RegretPegs w = x.make();
        due.is("18 how many", w.dances(guest, peg, n, 0), least == 3 ? Due.NONE : least);
        due.is("18 the first", w.dances(guest, peg, n, 1), least == 3 ? Due.NONE : first);
    }

    private static void who(State x) {
        int size = x.size;
        if (size < 2) {
            return;
        }
        int one = random.nextInt(size);
        int other = (one + 1 + random.nextInt(size - 1)) % size;
        int[] row = rueHavingDanced(x, one, other);
        int many = 0;
        int first = -1;
        for (int a = 0; a < size; a++) {
            for (int b = a + 1; b < size; b++) {
                if (java.util.Arrays.equals(row, rueHavingDanced(x, a, b))) {
                    first = many == 0 ? 10 * a + b : first;
                    many++;
                }
            }
        }
        RegretPegs y = x.make();
        Due.sheet(y, 2, 16, row);
        due.is("19 how many", y.whoDanced(2, 0), many);
        due.is("19 the first", y.whoDanced(2, 1), first);
    }

    private static int[] rueHavingDanced(State x, int one, int other) {
        RegretPegs y = x.make();
        pair(y, one, other);
        int[] row = new int[x.size];
        for (int i = 0; i < row.length; i++) {
            row[i] = y.ofGuest(i, 2);
        }
        return row;
    }
}
