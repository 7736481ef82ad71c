import java.util.Random;

/**
 * All promises: runs of calls on the class and on the Model, which must answer the same. Arguments crowd at the bounds
 * that the document names, and one beside them.
 */
public final class ModelTest {
    private static final Due due = new Due();

    /** A call and, of each argument, its least and its most; s: how many GUESTS there are, less 1. */
    private static final String[] CALLS = {
        "guest 0:69 0:999", "guest 0:69 0:999", "ofGuest 0:s 0:6", "change 0:s 0:0 0:999", "change 0:s 1:1 0:999",
        "change 0:s 2:2 0:1", "change 0:s 0:2 0:1", "peg 0:s", "hang 0:s 0:s", "become 0:s 0:69", "as 0:s 0:6",
        "feed 1:8", "text 0:1", "cram 1:8", "write 0:1", "write 0:1", "law 0:1 -3:1002 -3:1002 0:9", "dance 0:s 0:s",
        "dance 0:s 0:s", "hours 1:60", "hours 1:3", "loose 1:40", "loose 1:2", "then 0:60 0:s 0:1", "last 0:s",
        "partner 0:s 0:20 0:1", "dances 0:s 0:s 0:6 0:1", "whoDanced 0:3 0:1", "guess 0:3 0:s 0:s", "inOrder", "wrongs",
        "swap", "go 0:s 0:20", "allRue 0:60", "sorriest 0:60 0:1", "odds 0:s 0:s 0:60 0:1", "seed 0:5",
        "voice 0:s 0:3 -9:9", "trace 0:9", "sheet 0:3 8:8 0:40", "sheet 0:3 16:16 0:7", "sheet 0:3 0:32 0:40",
        "sheet 0:3 32:32 0:7", "put 0:3 0:39 0:999", "put 0:3 0:6 0:127", "put 0:3 0:6 0:6", "move 0:3 0:39 0:3 0:39 0:39",
        "move 0:3 0:3 0:3 0:3 0:3", "rues 0:3", "judge 0:3", "image", "restore", "tell 0:2000", "foretell", "check",
        "count 0:9", "told 1:5",
    };
    private static final String[] TEXTS = {
        "r", "o", "r-m", "(r+o)/2+m", "r*(r<o)+o*!(r<o)", "r%7*o", "0", "1000", "0-1", "r-1", "r+o",
        "d", "d>3", "m", "p", "d>m&p<3", "d%2|p=0", "0-d", "1", "p=5", "!m", "r+", "(d", "12345", "1<2<3", "((((((1))))))",
    };

    private static Random random;
    private static RegretPegs x;
    private static Model model;
    private static int calls;

    public static void main(String[] args) {
        for (int run = 0; run < 600; run++) {
            random = new Random(run);
            x = new RegretPegs();
            model = new Model();
            calls = 0;
            start(run);
            while (calls < 480) {
                step(CALLS[random.nextInt(CALLS.length)].split(" "));
            }
            for (int k = 1; k <= 5; k++) {
                ask("told", new int[] {k}, 0);
            }
        }
        due.end();
    }

    /** Some runs begin with a whole ball, some at an HOUR near the last. */
    private static void start(int run) {
        int guests = run % 3 == 0 ? 7 : random.nextInt(8);
        int range = random.nextBoolean() ? 1000 : 12;
        for (int i = 0; i < guests; i++) {
            ask("guest", new int[] {random.nextInt(70), random.nextInt(range)}, 0);
        }
        if (run % 10 == 0) {
            for (int i = 0; i < 166; i++) {
                ask("hours", new int[] {60}, 0);
            }
        }
    }

    private static int ask(String name, int[] a, long word) {
        calls++;
        int want = model.call(name, a, word);
        due.is(name + java.util.Arrays.toString(a), answer(name, a, word), want);
        return want;
    }

    private static void step(String[] call) {
        int[] a = new int[5];
        for (int i = 1; i < call.length; i++) {
            String[] bounds = call[i].split(":");
            int most = bounds[1].equals("s") ? model.call("count", new int[] {0}, 0) - 1 : Integer.parseInt(bounds[1]);
            a[i - 1] = argument(Integer.parseInt(bounds[0]), most);
        }
        switch (call[0]) {
            case "write": write(a[0], TEXTS[random.nextInt(TEXTS.length)]); break;
            case "guess": guess(a[0], a[1], a[2]); break;
            case "foretell": foretell(); break;
            case "cram": cram(a[0]); break;
            default: ask(call[0], a, word());
        }
    }

    private static int argument(int least, int most) {
        switch (random.nextInt(60)) {
            case 0: return least - 1;
            case 1: return most + 1;
            case 2: return random.nextBoolean() ? Integer.MIN_VALUE : Integer.MAX_VALUE;
            case 3: return random.nextInt();
            case 4: case 5: case 6: case 7: return least;
            case 8: case 9: case 10: case 11: return most;
            default: return least + random.nextInt(Math.max(1, most - least + 1));
        }
    }

    private static long word() {
        String signs = "romdp0123456789+-*/%<=>&|!()";
        long word = 0;
        for (int i = 0; i < 8; i++) {
            word = word << 8 | (random.nextInt(90) == 0 ? random.nextInt(256) : signs.charAt(random.nextInt(signs.length())));
        }
        return word;
    }

    /** A whole TEXT, where the tape has no bytes ahead of it. */
    private static void write(int use, String text) {
        for (int from = 0; from < text.length(); from += 8) {
            int n = Math.min(8, text.length() - from);
            long word = 0;
            for (int i = 0; i < n; i++) {
                word |= (long) text.charAt(from + i) << (8 * i);
            }
            ask("feed", new int[] {n}, word);
        }
        ask("text", new int[] {use}, 0);
    }

    /** A SHEET with RUE as it would be behind a DANCE, so that whoDanced() finds one. */
    private static void guess(int sheet, int one, int other) {
        ask("sheet", new int[] {sheet, 16, model.call("count", new int[] {0}, 0)}, 0);
        RegretPegs y = x;
        int ofOne = y.law(0, y.ofGuest(one, 2), y.ofGuest(other, 2), y.ofGuest(one, 1));
        int ofOther = y.law(0, y.ofGuest(other, 2), y.ofGuest(one, 2), y.ofGuest(other, 1));
        // The class was asked four times or six; the Model is, too, so that both tell the same ERRORS.
        int[][] same = {{one, 2}, {other, 2}, {one, 1}, {other, 2}, {one, 2}, {other, 1}};
        for (int[] s : same) {
            model.call("ofGuest", s, 0);
        }
        calls += 8;
        for (int i = 0; i < model.call("count", new int[] {0}, 0); i++) {
            int rue = model.call("ofGuest", new int[] {i, 2}, 0);
            ask("put", new int[] {sheet, i, i == one ? ofOne : i == other ? ofOther : rue}, 0);
        }
        ask("whoDanced", new int[] {sheet, 0}, 0);
        ask("whoDanced", new int[] {sheet, 1}, 0);
    }

    /** Up to a full tape, and one byte at a time then. */
    private static void cram(int n) {
        while (model.call("count", new int[] {6}, 0) < 50 && ask("feed", new int[] {n}, word()) > 0) {
            continue;
        }
        for (int i = 0; i < 3; i++) {
            ask("feed", new int[] {1}, word());
        }
    }

    private static void foretell() {
        ask("check", new int[1], 0);
        int n = random.nextInt(22);
        for (int i = 1; i <= n; i++) {
            ask("tell", new int[] {model.call("allRue", new int[] {i}, 0) + (random.nextInt(40) == 0 ? 1 : 0)}, 0);
        }
        ask("check", new int[1], 0);
    }

    private static int answer(String name, int[] a, long word) {
        switch (name) {
            case "guest": return x.guest(a[0], a[1]);
            case "ofGuest": return x.ofGuest(a[0], a[1]);
            case "change": return x.change(a[0], a[1], a[2]);
            case "peg": return x.peg(a[0]);
            case "hang": return x.hang(a[0], a[1]);
            case "become": return x.become(a[0], a[1]);
            case "as": return x.as(a[0], a[1]);
            case "feed": return x.feed(word, a[0]);
            case "text": return x.text(a[0]);
            case "law": return x.law(a[0], a[1], a[2], a[3]);
            case "dance": return x.dance(a[0], a[1]);
            case "hours": return x.hours(a[0]);
            case "loose": return x.loose(a[0]);
            case "then": return x.then(a[0], a[1], a[2]);
            case "last": return x.last(a[0]);
            case "partner": return x.partner(a[0], a[1], a[2]);
            case "dances": return x.dances(a[0], a[1], a[2], a[3]);
            case "whoDanced": return x.whoDanced(a[0], a[1]);
            case "inOrder": return x.inOrder();
            case "wrongs": return x.wrongs();
            case "swap": return x.swap();
            case "go": return x.go(a[0], a[1]);
            case "allRue": return x.allRue(a[0]);
            case "sorriest": return x.sorriest(a[0], a[1]);
            case "odds": return x.odds(a[0], a[1], a[2], a[3]);
            case "seed": return x.seed(a[0]);
            case "voice": return x.voice(a[0], a[1], a[2]);
            case "trace": return x.trace(a[0]);
            case "sheet": return x.sheet(a[0], a[1], a[2]);
            case "put": return x.put(a[0], a[1], a[2]);
            case "move": return x.move(a[0], a[1], a[2], a[3], a[4]);
            case "rues": return x.rues(a[0]);
            case "judge": return x.judge(a[0]);
            case "image": return x.image();
            case "restore": return x.restore();
            case "tell": return x.tell(a[0]);
            case "check": return x.check();
            case "count": return x.count(a[0]);
            case "told": return x.told(a[0]);
            default: throw new IllegalStateException(name);
        }
    }
}
