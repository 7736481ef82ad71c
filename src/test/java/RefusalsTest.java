import java.util.function.Supplier;
import java.util.function.ToIntFunction;

/**
 * "Each act tells its ERRORS in the order in which they are asked; one that answers an ERROR changes nothing but what
 * told() tells.": each act with each of its ERRORS, and with two at once, on objects of which all rows hold something;
 * another object, made alike, is spared the call and must tell the same of all else.
 */
public final class RefusalsTest {
    private static final Due due = new Due();

    public static void main(String[] args) {
        guests();
        texts();
        dancesAndHours();
        thoughts();
        oneAlone();
        voicesAndSheets();
        keptAndTold();
        faultsAreNoErrors();
        due.end();
    }

    /** Three GUESTS, 1 isn't IDLE; both TEXTS, three bytes on THE TAPE, two numbers wait; SHEET 3 is missing. */
    private static RegretPegs ball() {
        RegretPegs x = Due.ball(14, 300, 55, 200, 31, 100);
        Due.text(x, 0, "r-o/2");
        Due.text(x, 1, "d>m");
        x.hours(3);
        x.dance(1, 2);
        x.change(2, 2, 1);
        x.image();
        x.hours(2);
        x.change(1, 2, 0);
        x.hang(0, 2);
        x.seed(12);
        Due.feed(x, "r+7");
        x.tell(x.allRue(1));
        x.tell(x.allRue(2));
        x.voice(1, 3, 4);
        Due.sheet(x, 0, 8, 1, 2, 3);
        Due.sheet(x, 1, 16, 4, 5, 6, 7);
        Due.sheet(x, 2, 16, 8, 9);
        return x;
    }

    /** Seven GUESTS at the last HOUR, fifty bytes on THE TAPE, twenty numbers wait. */
    private static RegretPegs full() {
        RegretPegs x = Due.late(9999, 14, 300, 55, 200, 31, 100, 44, 0, 62, 50, 20, 7, 0, 9);
        Due.feed(x, "1+".repeat(24) + "10");
        for (int i = 1; i <= 20; i++) {
            x.tell(x.count(2));
        }
        x.image();
        return x;
    }

    private static RegretPegs alone() {
        RegretPegs x = Due.ball(23, 40);
        x.sheet(0, 8, 2);
        return x;
    }

    private static void refused(Supplier<RegretPegs> made, String call, int error, ToIntFunction<RegretPegs> act) {
        RegretPegs x = made.get();
        RegretPegs spared = made.get();
        due.is(call, act.applyAsInt(x), error);
        for (int k = 1; k <= 5; k++) {
            due.is(call + ": told(" + k + ")", x.told(k), spared.told(k) + (error == -1000000000 - k ? 1 : 0));
        }
        String got = all(x);
        String want = all(spared);
        if (!got.equals(want)) {
            System.out.println(got + "\n" + want);
        }
        due.isTrue(call + " changes nothing", got.equals(want));
    }

    /** All that calls can tell of an object; the object is of no use then. */
    private static String all(RegretPegs x) {
        StringBuilder all = new StringBuilder();
        guestsAndCounts(x, all);
        for (int i = 0; i < x.count(8); i++) {
            all.append(" b").append(x.trace(i));
        }
        rows(x, all);
        all.append(" c").append(x.check());
        all.append(" t").append(x.text(0)).append(':').append(x.law(0, 30, 9, 3));
        all.append(" r").append(x.restore());
        guestsAndCounts(x, all);
        all.append(" i").append(x.image());
        return all.toString();
    }

    private static void guestsAndCounts(RegretPegs x, StringBuilder all) {
        all.append(" o").append(Due.order(x));
        for (int what = 0; what < 10; what++) {
            all.append(' ').append(x.count(what));
        }
        for (int guest = 0; guest < x.count(0); guest++) {
            for (int what = 0; what < 5; what++) {
                all.append(' ').append(x.ofGuest(guest, what));
            }
        }
        all.append(" l").append(x.law(0, 30, 9, 3)).append(x.law(0, 900, 9, 0)).append(x.law(1, 3, 3, 0));
        all.append(x.law(1, 4, 3, 0));
    }

    /** Of each SHEET: which places there are, whose bits are alike, the first numbers. RUES are put back. */
    private static void rows(RegretPegs x, StringBuilder all) {
        int guests = x.count(0);
        int[] rues = new int[guests];
        for (int i = 0; i < guests; i++) {
            rues[i] = x.ofGuest(i, 2);
        }
        for (int sheet = 0; sheet < 4; sheet++) {
            for (int i : new int[] {0, 1, 2, 3, 4, 39}) {
                all.append(" m").append(x.move(sheet, i, sheet, i, 1));
            }
            all.append(" k").append(x.move(sheet, 0, (sheet + 1) % 4, 0, 0));
            all.append(" j").append(x.judge(sheet)).append(" n").append(x.rues(sheet));
            for (int i = 0; i < guests; i++) {
                all.append(' ').append(x.change(i, 0, rues[i]));
            }
        }
    }

    private static void guests() {
        refused(RefusalsTest::ball, "guest: km", Due.BEYOND, x -> x.guest(70, 0));
        refused(RefusalsTest::ball, "guest: km below", Due.BEYOND, x -> x.guest(-1, 0));
        refused(RefusalsTest::ball, "guest: rue", Due.BEYOND, x -> x.guest(0, 1000));
        refused(RefusalsTest::full, "guest: full", Due.FULL, x -> x.guest(0, 0));
        refused(RefusalsTest::full, "guest: km, full", Due.BEYOND, x -> x.guest(70, 0));
        refused(RefusalsTest::full, "guest: rue, full", Due.BEYOND, x -> x.guest(0, -1));
        refused(RefusalsTest::ball, "ofGuest: guest", Due.BEYOND, x -> x.ofGuest(3, 0));
        refused(RefusalsTest::ball, "ofGuest: what", Due.BEYOND, x -> x.ofGuest(0, 7));
        refused(RefusalsTest::ball, "change: guest", Due.BEYOND, x -> x.change(3, 0, 0));
        refused(RefusalsTest::ball, "change: what", Due.BEYOND, x -> x.change(0, 3, 0));
        refused(RefusalsTest::ball, "change: RUE", Due.BEYOND, x -> x.change(0, 0, 1000));
        refused(RefusalsTest::ball, "change: DANCED", Due.BEYOND, x -> x.change(0, 1, -1));
        refused(RefusalsTest::ball, "change: IDLE", Due.BEYOND, x -> x.change(0, 2, 2));
        refused(RefusalsTest::ball, "peg", Due.BEYOND, x -> x.peg(3));
        refused(RefusalsTest::ball, "hang: one", Due.BEYOND, x -> x.hang(3, 0));
        refused(RefusalsTest::ball, "hang: other", Due.BEYOND, x -> x.hang(0, 3));
        refused(RefusalsTest::ball, "become: guest", Due.BEYOND, x -> x.become(3, 0));
        refused(RefusalsTest::ball, "become: km", Due.BEYOND, x -> x.become(0, 70));
        refused(RefusalsTest::ball, "as: guest", Due.BEYOND, x -> x.as(3, 1));
        refused(RefusalsTest::ball, "as: kind", Due.BEYOND, x -> x.as(0, 7));
        refused(RefusalsTest::ball, "as: unlike", Due.KIND, x -> x.as(0, 2));
        refused(RefusalsTest::ball, "as: under it", Due.KIND, x -> x.as(0, 4));
    }

    private static void texts() {
        refused(RefusalsTest::ball, "feed: n", Due.BEYOND, x -> x.feed(49, 0));
        refused(RefusalsTest::ball, "feed: n above", Due.BEYOND, x -> x.feed(49, 9));
        refused(RefusalsTest::full, "feed: full", Due.FULL, x -> x.feed(49, 1));
        refused(RefusalsTest::full, "feed: n, full", Due.BEYOND, x -> x.feed(49, 9));
        refused(RefusalsTest::ball, "text", Due.BEYOND, x -> x.text(2));
        refused(RefusalsTest::ball, "text below", Due.BEYOND, x -> x.text(-1));
        refused(RefusalsTest::ball, "law", Due.BEYOND, x -> x.law(2, 0, 0, 0));
    }

    private static void dancesAndHours() {
        refused(RefusalsTest::ball, "dance: one", Due.BEYOND, x -> x.dance(3, 0));
        refused(RefusalsTest::ball, "dance: other", Due.BEYOND, x -> x.dance(0, -1));
        refused(RefusalsTest::ball, "dance: the same", Due.BEYOND, x -> x.dance(0, 0));
        refused(RefusalsTest::ball, "dance: the same, not IDLE", Due.BEYOND, x -> x.dance(1, 1));
        refused(RefusalsTest::ball, "dance: none such, not IDLE", Due.BEYOND, x -> x.dance(1, 3));
        refused(RefusalsTest::ball, "dance: not IDLE", Due.STATE, x -> x.dance(1, 0));
        refused(RefusalsTest::ball, "dance: other not IDLE", Due.STATE, x -> x.dance(0, 1));
        refused(RefusalsTest::ball, "hours", Due.BEYOND, x -> x.hours(0));
        refused(RefusalsTest::full, "hours: HOUR", Due.STATE, x -> x.hours(1));
        refused(RefusalsTest::full, "hours: n, HOUR", Due.BEYOND, x -> x.hours(61));
        refused(RefusalsTest::ball, "loose", Due.BEYOND, x -> x.loose(0));
        refused(RefusalsTest::full, "loose: HOUR", Due.STATE, x -> x.loose(1));
        refused(RefusalsTest::full, "loose: n, HOUR", Due.BEYOND, x -> x.loose(41));
    }

    private static void thoughts() {
        refused(RefusalsTest::ball, "then: n", Due.BEYOND, x -> x.then(61, 0, 0));
        refused(RefusalsTest::ball, "then: guest", Due.BEYOND, x -> x.then(1, 3, 0));
        refused(RefusalsTest::ball, "then: what", Due.BEYOND, x -> x.then(1, 0, 2));
        refused(RefusalsTest::ball, "last", Due.BEYOND, x -> x.last(3));
        refused(() -> Due.ball(30, 5, 30, 6), "last: not by 60", Due.NONE, x -> x.last(0));
        refused(RefusalsTest::ball, "partner: guest", Due.BEYOND, x -> x.partner(3, 1, 0));
        refused(RefusalsTest::ball, "partner: n", Due.BEYOND, x -> x.partner(0, 21, 0));
        refused(RefusalsTest::ball, "partner: what", Due.BEYOND, x -> x.partner(0, 1, 2));
        refused(RefusalsTest::ball, "dances: guest", Due.BEYOND, x -> x.dances(3, 0, 1, 0));
        refused(RefusalsTest::ball, "dances: peg", Due.BEYOND, x -> x.dances(0, 3, 1, 0));
        refused(RefusalsTest::ball, "dances: n", Due.BEYOND, x -> x.dances(0, 0, 7, 0));
        refused(RefusalsTest::ball, "dances: what", Due.BEYOND, x -> x.dances(0, 0, 1, 2));
        refused(RefusalsTest::ball, "dances: not by two", Due.NONE, x -> x.dances(x.peg(2), 0, 0, 0));
        refused(RefusalsTest::ball, "dances: not by two, and what", Due.BEYOND, x -> x.dances(x.peg(2), 0, 0, 2));
        refused(RefusalsTest::ball, "whoDanced: sheet", Due.BEYOND, x -> x.whoDanced(4, 0));
        refused(RefusalsTest::ball, "whoDanced: what", Due.BEYOND, x -> x.whoDanced(0, 2));
        refused(RefusalsTest::ball, "whoDanced: what, missing", Due.BEYOND, x -> x.whoDanced(3, 2));
        refused(RefusalsTest::ball, "whoDanced: missing", Due.NONE, x -> x.whoDanced(3, 0));
        refused(RefusalsTest::ball, "whoDanced: too many", Due.NONE, x -> x.whoDanced(1, 0));
        refused(RefusalsTest::ball, "whoDanced: too few", Due.NONE, x -> x.whoDanced(2, 0));
        refused(RefusalsTest::ball, "whoDanced: none", Due.NONE, x -> x.whoDanced(0, 1));
        refused(RefusalsTest::neverRight, "inOrder", Due.NONE, RegretPegs::inOrder);
        refused(RefusalsTest::ball, "go: guest", Due.BEYOND, x -> x.go(3, 1));
        refused(RefusalsTest::ball, "go: n", Due.BEYOND, x -> x.go(0, 21));
        refused(RefusalsTest::ball, "allRue", Due.BEYOND, x -> x.allRue(61));
        refused(RefusalsTest::ball, "sorriest: n", Due.BEYOND, x -> x.sorriest(61, 0));
        refused(RefusalsTest::ball, "sorriest: what", Due.BEYOND, x -> x.sorriest(1, 2));
        refused(RegretPegs::new, "sorriest: nobody", Due.NONE, x -> x.sorriest(1, 0));
        refused(RegretPegs::new, "sorriest: nobody, and n", Due.BEYOND, x -> x.sorriest(61, 0));
        refused(RegretPegs::new, "sorriest: nobody, and what", Due.BEYOND, x -> x.sorriest(0, -1));
        refused(RefusalsTest::ball, "odds: guest", Due.BEYOND, x -> x.odds(3, 0, 1, 0));
        refused(RefusalsTest::ball, "odds: peg", Due.BEYOND, x -> x.odds(0, 3, 1, 0));
        refused(RefusalsTest::ball, "odds: n", Due.BEYOND, x -> x.odds(0, 0, 61, 0));
        refused(RefusalsTest::ball, "odds: part", Due.BEYOND, x -> x.odds(0, 0, 1, 2));
    }

    private static RegretPegs neverRight() {
        RegretPegs x = Due.ball(30, 6, 30, 5);
        Due.text(x, 1, "0");
        return x;
    }

    private static void oneAlone() {
        refused(RefusalsTest::alone, "partner", Due.NONE, x -> x.partner(0, 1, 0));
        refused(RefusalsTest::alone, "partner: and n", Due.BEYOND, x -> x.partner(0, 21, 0));
        refused(RefusalsTest::alone, "partner: and what", Due.BEYOND, x -> x.partner(0, 1, -1));
        refused(RefusalsTest::alone, "go", Due.NONE, x -> x.go(0, 1));
        refused(RefusalsTest::alone, "go: and n", Due.BEYOND, x -> x.go(0, -1));
        refused(RefusalsTest::alone, "odds", Due.NONE, x -> x.odds(0, 0, 1, 0));
        refused(RefusalsTest::alone, "odds: and peg", Due.BEYOND, x -> x.odds(0, 1, 1, 0));
        refused(RefusalsTest::alone, "odds: and n", Due.BEYOND, x -> x.odds(0, 0, 61, 0));
        refused(RefusalsTest::alone, "odds: and part", Due.BEYOND, x -> x.odds(0, 0, 1, -1));
        refused(RefusalsTest::alone, "dance", Due.BEYOND, x -> x.dance(0, 0));
    }

    private static void voicesAndSheets() {
        refused(RefusalsTest::ball, "voice: guest", Due.BEYOND, x -> x.voice(3, 0, 0));
        refused(RefusalsTest::ball, "voice: act", Due.BEYOND, x -> x.voice(0, 4, 0));
        refused(RefusalsTest::ball, "trace", Due.NONE, x -> x.trace(40));
        refused(RefusalsTest::ball, "trace below", Due.NONE, x -> x.trace(-1));
        refused(RefusalsTest::ball, "sheet: sheet", Due.BEYOND, x -> x.sheet(4, 8, 1));
        refused(RefusalsTest::ball, "sheet: bits", Due.BEYOND, x -> x.sheet(0, 9, 1));
        refused(RefusalsTest::ball, "sheet: bits, n below", Due.BEYOND, x -> x.sheet(0, 9, -1));
        refused(RefusalsTest::ball, "sheet: sheet, n below", Due.BEYOND, x -> x.sheet(4, 8, -1));
        refused(RefusalsTest::ball, "sheet: n below", Due.STATE, x -> x.sheet(0, 8, -1));
        refused(RefusalsTest::ball, "sheet: n below, missing", Due.STATE, x -> x.sheet(3, 8, -1));
        refused(RefusalsTest::ball, "sheet: n", Due.BEYOND, x -> x.sheet(0, 16, 41));
        refused(RefusalsTest::ball, "sheet: n, missing", Due.BEYOND, x -> x.sheet(3, 16, 41));
        refused(RefusalsTest::ball, "sheet: none such, to be missing", Due.BEYOND, x -> x.sheet(4, 0, 0));
        refused(RefusalsTest::ball, "put: sheet", Due.BEYOND, x -> x.put(4, 0, 0));
        refused(RefusalsTest::ball, "put: missing", Due.NONE, x -> x.put(3, 0, 0));
        refused(RefusalsTest::ball, "put: missing, number", Due.NONE, x -> x.put(3, -1, 0));
        refused(RefusalsTest::ball, "put: number", Due.BEYOND, x -> x.put(0, 3, 0));
        refused(RefusalsTest::ball, "move: sheet", Due.BEYOND, x -> x.move(4, 0, 0, 0, 1));
        refused(RefusalsTest::ball, "move: other", Due.BEYOND, x -> x.move(0, 0, 4, 0, 1));
        refused(RefusalsTest::ball, "move: other, missing", Due.BEYOND, x -> x.move(3, 0, 4, 0, 1));
        refused(RefusalsTest::ball, "move: missing", Due.NONE, x -> x.move(3, 0, 0, 0, 1));
        refused(RefusalsTest::ball, "move: missing, n", Due.NONE, x -> x.move(0, 0, 3, 0, -1));
        refused(RefusalsTest::ball, "move: unlike", Due.KIND, x -> x.move(0, 0, 1, 0, 1));
        refused(RefusalsTest::ball, "move: unlike, n", Due.KIND, x -> x.move(0, 0, 1, 0, 9));
        refused(RefusalsTest::ball, "move: n", Due.BEYOND, x -> x.move(1, 0, 2, 0, -1));
        refused(RefusalsTest::ball, "move: i", Due.BEYOND, x -> x.move(1, 3, 2, 0, 2));
        refused(RefusalsTest::ball, "move: j", Due.BEYOND, x -> x.move(1, 0, 2, 1, 2));
        refused(RefusalsTest::ball, "rues: sheet", Due.BEYOND, x -> x.rues(4));
        refused(RefusalsTest::ball, "rues: missing", Due.NONE, x -> x.rues(3));
        refused(RefusalsTest::ball, "judge: sheet", Due.BEYOND, x -> x.judge(4));
        refused(RefusalsTest::ball, "judge: missing", Due.NONE, x -> x.judge(3));
    }

    private static void keptAndTold() {
        refused(RefusalsTest::alone, "restore", Due.NONE, RegretPegs::restore);
        refused(RefusalsTest::full, "tell", Due.FULL, x -> x.tell(0));
        refused(RefusalsTest::ball, "count", Due.BEYOND, x -> x.count(10));
        refused(RefusalsTest::ball, "told", Due.BEYOND, x -> x.told(6));
        refused(RefusalsTest::ball, "told 0", Due.BEYOND, x -> x.told(0));
    }

    /** Answers below 0 that are no ERROR: told() doesn't tell them. */
    private static void faultsAreNoErrors() {
        RegretPegs x = new RegretPegs();
        due.is("a FAULT", x.text(0), -10);
        due.is("no SWAP", x.swap(), -1);
        due.is("nobody's cloak", x.count(5), -1);
        x.guest(69, 5);
        due.is("GROWS", x.ofGuest(0, 6), -9);
        due.is("none needed", x.dances(0, 0, 0, 1), -1);
        Due.sheet(x, 0, 8, 0);
        due.is("all are", x.judge(0), -1);
        x.voice(0, 0, Due.BEYOND);
        x.seed(Due.BEYOND);
        x.seed(0);
        for (int k = 1; k <= 5; k++) {
            due.is("told(" + k + ")", x.told(k), 0);
        }
    }
}
