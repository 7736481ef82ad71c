import java.util.ArrayDeque;
import java.util.ArrayList;
import java.util.Deque;
import java.util.List;
import java.util.function.IntBinaryOperator;

/**
 * The document once more, in other words than the class has: a TEXT stays a text and is worked out by two stacks, a
 * GUEST is an object, an ERROR is thrown. ModelTest asks both.
 */
final class Model {
    /** An ERROR; call() turns it into the answer and counts it. */
    private static final class Refused extends RuntimeException {
        final int k;

        Refused(int k) {
            super(null, null, false, false);
            this.k = k;
        }
    }

    private static final class Guest {
        final int number;
        int kind;
        int m;
        int rue;
        int danced = 0;
        boolean idle = true;

        Guest(int number) {
            this.number = number;
        }

        Guest copy() {
            Guest g = new Guest(number);
            g.kind = kind;
            g.m = m;
            g.rue = rue;
            g.danced = danced;
            g.idle = idle;
            return g;
        }
    }

    /** All that an IMAGE keeps; what is only thought is done to a copy. */
    private static final class Hall {
        final List<Guest> guests = new ArrayList<>();
        final List<Guest> pegs = new ArrayList<>();
        String[] texts = {null, null};
        String tape = "";
        List<Integer> waiting = new ArrayList<>();
        int hour = 0;
        int z = 1;

        Hall copy() {
            Hall h = new Hall();
            for (Guest g : guests) {
                h.guests.add(g.copy());
            }
            for (Guest g : pegs) {
                h.pegs.add(h.guests.get(g.number));
            }
            h.texts = texts.clone();
            h.tape = tape;
            h.waiting = new ArrayList<>(waiting);
            h.hour = hour;
            h.z = z;
            return h;
        }

        int pegOf(int guest) {
            return pegs.indexOf(guests.get(guest));
        }

        int grows(Guest g) {
            boolean girl = g.kind == 1 || g.kind == 4;
            boolean fellow = g.kind == 2 || g.kind == 5;
            int grows = girl ? 1 + g.m % 3 : fellow ? 2 : g.kind == 0 ? 1 : 0;
            if (g.kind == 4 && g.danced == 0) {
                grows *= 4;
            }
            if (g.kind == 5) {
                grows += pegs.subList(pegs.indexOf(g) + 1, pegs.size()).size();
            }
            if (g.kind == 6) {
                grows -= g.m;
            }
            return grows;
        }

        int dancing(int r, int o, int m) {
            int gives = texts[0] == null ? (r + o) / 2 : new Worker(texts[0], "rom", r, o, m).gives();
            return gives < 0 ? 0 : gives > 999 ? 999 : gives;
        }

        int shifts(int d, int m, int p) {
            int gives = texts[1] == null ? 1 : new Worker(texts[1], "dmp", d, m, p).gives();
            return gives <= 0 ? 0 : 1;
        }

        Hall dance(int one, int other) {
            Guest a = guests.get(one);
            Guest b = guests.get(other);
            int ofA = dancing(a.rue, b.rue, a.m);
            int ofB = dancing(b.rue, a.rue, b.m);
            a.rue = ofA;
            b.rue = ofB;
            for (Guest g : List.of(a, b)) {
                g.danced = g.danced == 999 ? 999 : g.danced + 1;
                g.idle = false;
            }
            return this;
        }

        Hall hours(int n) {
            for (int i = 0; i < n; i++) {
                int[] more = guests.stream().mapToInt(g -> g.idle ? grows(g) : 0).toArray();
                for (Guest g : guests) {
                    int rue = g.rue + more[g.number];
                    g.rue = rue < 0 ? 0 : rue > 999 ? 999 : rue;
                }
                for (int p = 1; p < pegs.size(); p++) {
                    Guest ahead = pegs.get(p - 1);
                    Guest behind = pegs.get(p);
                    if (ahead.rue > behind.rue && shifts(ahead.rue - behind.rue, ahead.m, p - 1) != 0) {
                        pegs.add(p - 1, pegs.remove(p));
                    }
                }
                guests.forEach(g -> g.idle = true);
                hour++;
            }
            return this;
        }

        int sum() {
            return guests.stream().mapToInt(g -> g.rue).sum();
        }

        int wrong() {
            int wrong = 0;
            for (int q = 0; q < pegs.size(); q++) {
                for (Guest ahead : pegs.subList(0, q)) {
                    wrong += ahead.rue > pegs.get(q).rue ? 1 : 0;
                }
            }
            return wrong;
        }

        int draw() {
            z = z * 1103515245 + 12345;
            return z >>> 8;
        }
    }

    /** Works a TEXT out by a stack of values and one of signs; the FAULT is where neither goes on. */
    private static final class Worker {
        private static final String[] SIGNS = {"|", "&", "<=>", "+-", "*/%", "!"};
        private final String text;
        private final Deque<Integer> values = new ArrayDeque<>();
        private final Deque<Character> signs = new ArrayDeque<>();
        private final String names;
        private final int[] named;
        int fault = -1;

        Worker(String text, String names, int... named) {
            this.text = text;
            this.names = names;
            this.named = named;
            int at = 0;
            boolean wantsValue = true;
            while (at < text.length()) {
                char c = text.charAt(at);
                int length = 1;
                if (!wantsValue) {
                    if (!takesSign(c)) {
                        break;
                    }
                    wantsValue = c != ')';
                } else if (c == '!' || c == '(') {
                    if (signs.stream().filter(s -> s == '!' || s == '(').count() == 5) {
                        break;
                    }
                    signs.push(c);
                } else {
                    length = takesValue(at);
                    if (length == 0) {
                        break;
                    }
                    wantsValue = false;
                    workOff(5);
                }
                at += length;
            }
            if (at < text.length() || wantsValue || signs.contains('(')) {
                fault = at;
            } else {
                workOff(0);
            }
        }

        int gives() {
            return values.peek();
        }

        private int takesValue(int at) {
            int name = names.indexOf(text.charAt(at));
            if (name >= 0) {
                values.push(named[name]);
                return 1;
            }
            int end = at;
            while (end < text.length() && end < at + 4 && "0123456789".indexOf(text.charAt(end)) >= 0) {
                end++;
            }
            if (end > at) {
                values.push(Integer.parseInt(text.substring(at, end)));
            }
            return end - at;
        }

        private boolean takesSign(char c) {
            if (c == ')') {
                if (!signs.contains('(')) {
                    return false;
                }
                workOff(0);
                signs.pop();
                workOff(5);
                return true;
            }
            int level = levelOf(c);
            if (level < 0 || level == 5) {
                return false;
            }
            if (level == 2) {
                // A second one that compares: ahead of it, down to the last ( or & or |, stands another.
                for (char s : signs) {
                    if (s == '(' || levelOf(s) < 2) {
                        break;
                    }
                    if (levelOf(s) == 2) {
                        return false;
                    }
                }
            }
            workOff(level);
            signs.push(c);
            return true;
        }

        private static int levelOf(char c) {
            for (int level = 0; level < SIGNS.length; level++) {
                if (SIGNS[level].indexOf(c) >= 0) {
                    return level;
                }
            }
            return -1;
        }

        private void workOff(int level) {
            while (!signs.isEmpty() && levelOf(signs.peek()) >= level) {
                char sign = signs.pop();
                int right = values.pop();
                values.push(sign == '!' ? (right == 0 ? 1 : 0) : of(sign).applyAsInt(values.pop(), right));
            }
        }

        private static IntBinaryOperator of(char sign) {
            switch (sign) {
                case '|': return (a, b) -> a == 0 && b == 0 ? 0 : 1;
                case '&': return (a, b) -> a == 0 || b == 0 ? 0 : 1;
                case '<': return (a, b) -> a < b ? 1 : 0;
                case '=': return (a, b) -> a == b ? 1 : 0;
                case '>': return (a, b) -> b < a ? 1 : 0;
                case '+': return (a, b) -> (int) ((long) a + b);
                case '-': return (a, b) -> (int) ((long) a - b);
                case '*': return (a, b) -> (int) ((long) a * b);
                case '/': return (a, b) -> b == 0 ? 0 : (int) ((long) a / b);
                default: return (a, b) -> b == 0 ? 0 : (int) ((long) a % b);
            }
        }
    }

    private Hall hall = new Hall();
    private Hall image = null;
    private int images = 0;
    private final int[][] sheets = new int[4][];
    private final int[] bits = new int[4];
    private final List<Integer> trace = new ArrayList<>();
    private final int[] told = new int[6];

    int call(String name, int[] a, long word) {
        try {
            return answer(name, a, word);
        } catch (Refused r) {
            told[r.k]++;
            return -1000000000 - r.k;
        }
    }

    private static void ask(boolean holds, int k) {
        if (!holds) {
            throw new Refused(k);
        }
    }

    private static void within(int v, int least, int most) {
        ask(v >= least && v <= most, 1);
    }

    private Guest guest(int number) {
        within(number, 0, hall.guests.size() - 1);
        return hall.guests.get(number);
    }

    private void aPeg(int peg) {
        within(peg, 0, hall.pegs.size() - 1);
    }

    private Hall thought() {
        return hall.copy();
    }

    private int answer(String name, int[] a, long word) {
        switch (name) {
            case "guest": return newGuest(a[0], a[1]);
            case "ofGuest": return ofGuest(guest(a[0]), a[1]);
            case "change": return change(guest(a[0]), a[1], a[2]);
            case "peg": aPeg(a[0]); return hall.pegs.get(a[0]).number;
            case "hang": return hang(a[0], a[1]);
            case "become": return become(guest(a[0]), a[1]);
            case "as": return as(guest(a[0]), a[1]);
            case "feed": return feed(word, a[0]);
            case "text": return text(a[0]);
            case "law":
                within(a[0], 0, 1);
                return a[0] == 0 ? hall.dancing(a[1], a[2], a[3]) : hall.shifts(a[1], a[2], a[3]);
            case "dance": return dance(a[0], a[1]);
            case "hours": return hours(a[0]);
            case "loose": return loose(a[0]);
            case "then": case "last": case "partner": case "dances": case "whoDanced": case "inOrder": case "wrongs":
            case "swap": case "go": case "allRue": case "sorriest": case "odds":
                return thoughtAnswer(name, a);
            case "sheet": case "put": case "move": case "rues": case "judge":
                return sheetAnswer(name, a);
            default: return otherAnswer(name, a);
        }
    }

    private int newGuest(int km, int rue) {
        within(km, 0, 69);
        within(rue, 0, 999);
        ask(hall.guests.size() < 7, 4);
        Guest g = new Guest(hall.guests.size());
        g.kind = km / 10;
        g.m = km % 10;
        g.rue = rue;
        hall.guests.add(g);
        hall.pegs.add(g);
        return g.number;
    }

    private int ofGuest(Guest g, int what) {
        within(what, 0, 6);
        return List.of(g.kind, g.m, g.rue, g.danced, g.idle ? 1 : 0, hall.pegOf(g.number), hall.grows(g)).get(what);
    }

    private int change(Guest g, int what, int v) {
        within(what, 0, 2);
        within(v, 0, what == 2 ? 1 : 999);
        int was = ofGuest(g, what + 2);
        if (what == 0) {
            g.rue = v;
        } else if (what == 1) {
            g.danced = v;
        } else {
            g.idle = v == 1;
        }
        return was;
    }

    private int hang(int one, int other) {
        aPeg(one);
        aPeg(other);
        java.util.Collections.swap(hall.pegs, one, other);
        return hall.pegs.get(one).number;
    }

    private int become(Guest g, int km) {
        within(km, 0, 69);
        int was = g.kind;
        g.kind = km / 10;
        g.m = km % 10;
        return was;
    }

    private int as(Guest g, int kind) {
        within(kind, 0, 6);
        ask(kind == 0 || g.kind == kind || g.kind == kind + 3, 5);
        return g.m;
    }

    private int feed(long word, int n) {
        within(n, 1, 8);
        ask(hall.tape.length() + n <= 50, 4);
        for (long rest = word, i = 0; i < n; i++, rest >>= 8) {
            hall.tape += (char) (rest & 255);
        }
        return hall.tape.length();
    }

    private int text(int use) {
        within(use, 0, 1);
        String text = hall.tape;
        hall.tape = "";
        int fault = new Worker(text, use == 0 ? "rom" : "dmp", 0, 0, 0).fault;
        if (fault >= 0) {
            return -10 - fault;
        }
        hall.texts[use] = text;
        return 1;
    }

    private int dance(int one, int other) {
        Guest a = guest(one);
        Guest b = guest(other);
        ask(a != b, 1);
        ask(a.idle && b.idle, 3);
        hall.dance(one, other);
        return a.rue;
    }

    private int hours(int n) {
        within(n, 1, 60);
        ask(hall.hour + n <= 9999, 3);
        return hall.hours(n).sum();
    }

    private int loose(int n) {
        within(n, 1, 40);
        ask(hall.hour + n <= 9999, 3);
        int size = hall.guests.size();
        for (int i = 0; i < n; i++) {
            if (size >= 2) {
                int one = hall.draw() % size;
                int other = hall.draw() % size;
                if (one != other) {
                    hall.dance(one, other);
                }
            }
            hall.hours(1);
        }
        return hall.sum();
    }

    private int thoughtAnswer(String name, int[] a) {
        switch (name) {
            case "then":
                within(a[0], 0, 60);
                guest(a[1]);
                within(a[2], 0, 1);
                Hall h = thought().hours(a[0]);
                return a[2] == 0 ? h.guests.get(a[1]).rue : h.pegOf(a[1]);
            case "last":
                Guest g = guest(a[0]);
                for (int n = 0; n <= 60; n++) {
                    if (thought().hours(n).pegOf(g.number) == hall.pegs.size() - 1) {
                        return n;
                    }
                }
                throw new Refused(2);
            case "partner": return partner(a[0], a[1], a[2]);
            case "dances": return dances(a[0], a[1], a[2], a[3]);
            case "whoDanced": return whoDanced(a[0], a[1]);
            case "inOrder":
                for (int n = 0; n <= 60; n++) {
                    if (thought().hours(n).wrong() == 0) {
                        return n;
                    }
                }
                throw new Refused(2);
            case "wrongs": return hall.wrong();
            case "swap": return swap();
            case "go": return go(a[0], a[1]);
            case "allRue":
                within(a[0], 0, 60);
                return thought().hours(a[0]).sum();
            case "sorriest": return sorriest(a[0], a[1]);
            default: return odds(a[0], a[1], a[2], a[3]);
        }
    }

    private int partner(int guest, int n, int what) {
        guest(guest);
        within(n, 0, 20);
        within(what, 0, 1);
        int best = Integer.MAX_VALUE;
        for (Guest other : hall.guests) {
            if (other.number != guest) {
                best = Math.min(best, 10 * thought().dance(guest, other.number).hours(n).pegOf(guest) + other.number);
            }
        }
        ask(best < Integer.MAX_VALUE, 2);
        return what == 0 ? best % 10 : best / 10;
    }

    /** The pairs, as 10 times the lesser, and the other. */
    private List<Integer> pairs() {
        List<Integer> pairs = new ArrayList<>();
        for (int code = 0; code < 100; code++) {
            if (code / 10 < code % 10 && code % 10 < hall.guests.size()) {
                pairs.add(code);
            }
        }
        return pairs;
    }

    private int dances(int guest, int peg, int n, int what) {
        guest(guest);
        aPeg(peg);
        within(n, 0, 6);
        within(what, 0, 1);
        if (thought().hours(n).pegOf(guest) <= peg) {
            return what == 0 ? 0 : -1;
        }
        for (int pair : pairs()) {
            if (thought().dance(pair / 10, pair % 10).hours(n).pegOf(guest) <= peg) {
                return what == 0 ? 1 : pair;
            }
        }
        for (int pair : pairs()) {
            for (int next : pairs()) {
                Hall h = thought().dance(pair / 10, pair % 10).dance(next / 10, next % 10);
                if (h.hours(n).pegOf(guest) <= peg) {
                    return what == 0 ? 2 : pair;
                }
            }
        }
        throw new Refused(2);
    }

    private int whoDanced(int sheet, int what) {
        within(sheet, 0, 3);
        within(what, 0, 1);
        ask(sheets[sheet] != null && sheets[sheet].length == hall.guests.size(), 2);
        List<Integer> so = new ArrayList<>();
        for (int pair : pairs()) {
            Hall h = thought().dance(pair / 10, pair % 10);
            if (java.util.Arrays.equals(h.guests.stream().mapToInt(g -> g.rue).toArray(), sheets[sheet])) {
                so.add(pair);
            }
        }
        ask(what == 0 || !so.isEmpty(), 2);
        return what == 0 ? so.size() : so.get(0);
    }

    private int swap() {
        int least = hall.wrong();
        int swap = -1;
        for (int pair : pairs()) {
            Hall h = thought();
            java.util.Collections.swap(h.pegs, h.pegOf(pair / 10), h.pegOf(pair % 10));
            if (h.wrong() < least) {
                least = h.wrong();
                swap = pair;
            }
        }
        return swap;
    }

    private int go(int guest, int n) {
        guest(guest);
        within(n, 0, 20);
        int best = Integer.MAX_VALUE;
        for (Guest other : hall.guests) {
            if (other.number != guest) {
                Hall h = thought();
                h.guests.get(other.number).rue = 0;
                best = Math.min(best, 10 * h.hours(n).pegOf(guest) + other.number);
            }
        }
        ask(best < Integer.MAX_VALUE, 2);
        return best % 10;
    }

    private int sorriest(int n, int what) {
        within(n, 0, 60);
        within(what, 0, 1);
        ask(!hall.guests.isEmpty(), 2);
        Hall h = thought().hours(n);
        int most = h.guests.stream().mapToInt(g -> g.rue).max().getAsInt();
        int who = h.guests.stream().filter(g -> g.rue == most).findFirst().get().number;
        return what == 0 ? who : most;
    }

    private int odds(int guest, int peg, int n, int part) {
        guest(guest);
        aPeg(peg);
        within(n, 0, 60);
        within(part, 0, 1);
        int all = hall.guests.size() - 1;
        ask(all > 0, 2);
        int good = 0;
        for (Guest other : hall.guests) {
            if (other.number != guest && thought().dance(guest, other.number).hours(n).pegOf(guest) <= peg) {
                good++;
            }
        }
        int common = java.math.BigInteger.valueOf(good).gcd(java.math.BigInteger.valueOf(all)).intValue();
        return part == 0 ? good / common : all / common;
    }

    private int[] aSheet(int sheet) {
        within(sheet, 0, 3);
        ask(sheets[sheet] != null, 2);
        return sheets[sheet];
    }

    private int sheetAnswer(String name, int[] a) {
        within(a[0], 0, 3);
        if (name.equals("sheet")) {
            ask(List.of(0, 8, 16, 32).contains(a[1]), 1);
            ask(a[1] == 0 || a[2] >= 0, 3);
            ask(a[1] == 0 || a[2] <= 40, 1);
            bits[a[0]] = a[1];
            sheets[a[0]] = a[1] == 0 ? null : new int[a[2]];
            return 1;
        }
        if (name.equals("move")) {
            return move(a);
        }
        int[] row = aSheet(a[0]);
        int size = hall.guests.size();
        int i = 0;
        switch (name) {
            case "put":
                within(a[1], 0, row.length - 1);
                row[a[1]] = bits[a[0]] == 8 ? (byte) a[2] : bits[a[0]] == 16 ? (short) a[2] : a[2];
                return 1;
            case "rues":
                while (i < row.length && i < size && row[i] >= 0 && row[i] <= 999) {
                    hall.guests.get(i).rue = row[i];
                    i++;
                }
                return i;
            default:
                while (i < row.length && i < size && row[i] == hall.pegs.get(i).number) {
                    i++;
                }
                return i == row.length && i == size ? -1 : i;
        }
    }

    private int move(int[] a) {
        within(a[2], 0, 3);
        int[] from = aSheet(a[0]);
        int[] to = aSheet(a[2]);
        ask(bits[a[0]] == bits[a[2]], 5);
        ask(a[4] >= 0 && a[1] >= 0 && a[3] >= 0, 1);
        ask((long) a[1] + a[4] <= from.length && (long) a[3] + a[4] <= to.length, 1);
        int[] were = from.clone();
        for (int i = 0; i < a[4]; i++) {
            to[a[3] + i] = were[a[1] + i];
        }
        return a[4];
    }

    private int otherAnswer(String name, int[] a) {
        switch (name) {
            case "seed":
                int was = hall.z;
                hall.z = a[0];
                return was;
            case "voice":
                Guest g = guest(a[0]);
                within(a[1], 0, 3);
                trace.clear();
                return new int[] {0, 1, 2, 3}[a[1]] == 0 ? dances(g, a[2], g.kind)
                    : a[1] == 1 ? sighs(g, a[2], g.kind) : a[1] == 2 ? looks(g, a[2], g.kind) : tells(g, a[2], g.kind);
            case "trace":
                ask(a[0] >= 0 && a[0] < trace.size(), 2);
                return trace.get(a[0]);
            case "image":
                image = hall.copy();
                return ++images;
            case "restore":
                ask(image != null, 2);
                hall = image.copy();
                return hall.hour;
            case "tell":
                ask(hall.waiting.size() < 20, 4);
                hall.waiting.add(a[0]);
                return hall.waiting.size();
            case "check":
                List<Integer> waiting = hall.waiting;
                hall.waiting = new ArrayList<>();
                for (int i = 0; i < waiting.size(); i++) {
                    if (thought().hours(i + 1).sum() != waiting.get(i)) {
                        return 1 + i;
                    }
                }
                return 0;
            case "count": return count(a[0]);
            case "told":
                within(a[0], 1, 5);
                return told[a[0]];
            default: throw new IllegalStateException(name);
        }
    }

    private int count(int what) {
        within(what, 0, 9);
        List<Guest> guests = hall.guests;
        switch (what) {
            case 0: return guests.size();
            case 1: return hall.hour;
            case 2: return hall.sum();
            case 3: return guests.stream().mapToInt(g -> g.danced).sum();
            case 4: return guests.stream().filter(g -> g.idle).mapToInt(g -> 1 << g.number).sum();
            case 5: return guests.isEmpty() ? -1 : hall.pegs.get(guests.size() - 1).number;
            case 6: return hall.tape.length();
            case 7: return hall.waiting.size();
            case 8: return trace.size();
            default: return hall.z;
        }
    }

    // The VOICES: each act with the KIND from which on its BODY is looked for.

    private void begin(int body) {
        if (trace.size() < 40) {
            trace.add(body);
        }
    }

    private int dances(Guest g, int x, int from) {
        if (from == 1 || from == 4) {
            begin(20);
            return dances(g, x, 0) * 3;
        }
        begin(10);
        return x + g.number;
    }

    private int sighs(Guest g, int x, int from) {
        if (from == 5) {
            begin(60);
            return sighs(g, x + 1, 2);
        }
        if (from == 2) {
            begin(30);
            int above = sighs(g, x, 0);
            return above - looks(g, 1, g.kind);
        }
        begin(11);
        return dances(g, x, g.kind) * 2;
    }

    private int looks(Guest g, int x, int from) {
        if (from == 6) {
            begin(70);
            return looks(g, x, 3) ^ g.number;
        }
        if (from == 3) {
            begin(40);
            return -looks(g, x, 0);
        }
        begin(12);
        return x - g.m;
    }

    private int tells(Guest g, int x, int from) {
        if (from == 4) {
            begin(50);
            int above = tells(g, x, 1);
            return above - dances(g, 2, g.kind);
        }
        if (from == 6) {
            begin(71);
            int sighs = sighs(g, x, g.kind);
            return sighs - tells(g, x, 3);
        }
        begin(13);
        int sighs = sighs(g, x, g.kind);
        return sighs ^ looks(g, x, g.kind);
    }
}
