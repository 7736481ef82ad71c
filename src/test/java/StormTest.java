import java.util.Random;

/**
 * Runs of any calls with any arguments: none throws, an ERROR changes nothing (a second object that is spared the calls
 * that were refused answers the same), told() tells them all, and what is only thought changes nothing.
 */
public final class StormTest {
    private static final Due due = new Due();
    private static final int CALLS = 39;
    private static final int[] EDGES = {-1, 7, 8, 10, 20, 21, 40, 41, 50, 60, 61, 69, 70, 127, 128, 255, 256, 999, 1000,
        9999, 32768, 65535, -1000000001, Integer.MAX_VALUE, Integer.MIN_VALUE};
    private static final String SIGNS = "romdpdrm0123456789+-*/%<=>&|!()";

    private static Random random;

    public static void main(String[] args) {
        for (int run = 0; run < 3000; run++) {
            storm(run);
        }
        due.end();
    }

    private static void storm(int run) {
        random = new Random(run);
        RegretPegs x = new RegretPegs();
        RegretPegs y = new RegretPegs();
        int[] errors = new int[6];
        int wild = random.nextInt(4) == 0 ? 3 : 40;
        for (int i = 0; i < 400; i++) {
            int call = i < 6 ? 0 : random.nextInt(CALLS);
            int[] a = new int[5];
            for (int k = 0; k < 5; k++) {
                a[k] = argument(wild);
            }
            if (call == 0 && random.nextInt(wild) != 0) {
                a[0] = random.nextInt(70);
                a[1] = random.nextInt(1000);
            }
            long word = word();
            int answer = call(x, call, a, word);
            boolean mayBeAny = call == 25 || call == 26 || (call == 37 && a[0] == 9);
            if (Due.isError(answer) && !mayBeAny) {
                errors[-1000000000 - answer]++;
            } else {
                due.is("run " + run + ", call " + call, call(y, call, a, word), answer);
            }
        }
        for (int k = 1; k <= 5; k++) {
            due.is("40 told(" + k + ")", x.told(k), errors[k]);
            due.is("40 told none", y.told(k), 0);
        }
        due.isTrue("run " + run + ": an ERROR changes nothing", all(x).equals(all(y)));
    }

    private static int argument(int wild) {
        if (random.nextInt(wild) == 0) {
            return random.nextInt(3) == 0 ? random.nextInt() : EDGES[random.nextInt(EDGES.length)];
        }
        return random.nextInt(random.nextBoolean() ? 3 : 9);
    }

    private static long word() {
        long word = 0;
        for (int i = 0; i < 8; i++) {
            word = word << 8 | SIGNS.charAt(random.nextInt(SIGNS.length()));
        }
        return word;
    }

    private static String all(RegretPegs x) {
        StringBuilder all = new StringBuilder();
        for (int what = 0; what < 10; what++) {
            all.append(x.count(what)).append(' ');
        }
        for (int i = 0; i < x.count(0); i++) {
            all.append(x.peg(i)).append(':');
            for (int what = 0; what < 7; what++) {
                all.append(x.ofGuest(i, what)).append(' ');
            }
        }
        return all.toString();
    }

    private static int call(RegretPegs x, int call, int[] a, long word) {
        int bits = a[1] == 1 ? 8 : a[1] == 2 ? 16 : a[1] == 3 ? 32 : a[1];
        switch (call) {
            case 0: return x.guest(a[0], a[1]);
            case 1: return x.ofGuest(a[0], a[1]);
            case 2: return x.change(a[0], a[1], a[2]);
            case 3: return x.peg(a[0]);
            case 4: return x.hang(a[0], a[1]);
            case 5: return x.become(a[0], a[1] * 9 + a[2]);
            case 6: return x.as(a[0], a[1]);
            case 7: return x.feed(word, a[0]);
            case 8: return x.text(a[0]);
            case 9: return x.law(a[0], a[1], a[2], a[3]);
            case 10: return x.dance(a[0], a[1]);
            case 11: return x.hours(a[0]);
            case 12: return x.loose(a[0]);
            case 13: return x.then(a[0], a[1], a[2]);
            case 14: return x.last(a[0]);
            case 15: return x.partner(a[0], a[1], a[2]);
            case 16: return x.dances(a[0], a[1], a[2], a[3]);
            case 17: return x.whoDanced(a[0], a[1]);
            case 18: return x.inOrder();
            case 19: return x.wrongs();
            case 20: return x.swap();
            case 21: return x.go(a[0], a[1]);
            case 22: return x.allRue(a[0]);
            case 23: return x.sorriest(a[0], a[1]);
            case 24: return x.odds(a[0], a[1], a[2], a[3]);
            case 25: return x.seed(a[0]);
            case 26: return x.voice(Math.floorMod(a[0], Math.max(1, x.count(0))), Math.floorMod(a[1], 4), a[2]);
            case 27: return x.trace(a[0]);
            case 28: return x.sheet(a[0], bits, a[2]);
            case 29: return x.put(a[0], a[1], a[2]);
            case 30: return x.move(a[0], a[1], a[2], a[3], a[4]);
            case 31: return x.rues(a[0]);
            case 32: return x.judge(a[0]);
            case 33: return x.image();
            case 34: return x.restore();
            case 35: return x.tell(a[0]);
            case 36: return x.check();
            case 37: return x.count(a[0]);
            default: return x.swap() + x.wrongs();
        }
    }
}
