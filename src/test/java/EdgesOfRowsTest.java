import java.util.function.IntUnaryOperator;

/**
 * The bounds that the document names under "Terms", 3 (VOICES) and 4, and in promises 1 and 27 to 40: each at its bound
 * and one beside it. A comment has the document's words.
 */
public final class EdgesOfRowsTest {
    private static final Due due = new Due();
    private static final int LEAST = Integer.MIN_VALUE;
    private static final int MOST = Integer.MAX_VALUE;

    public static void main(String[] args) {
        allIsAsAtFirst();
        objectsShareNothing();
        seedAnyNumber();
        voiceBounds();
        voiceGoesRound();
        traceFirstAndLast();
        traceOfTheLatestVoice();
        traceOfTheLongestVoice();
        sheetNumbers();
        sheetBits();
        sheetSizes();
        sheetBelowNone();
        sheetMissing();
        sheetIsAllZeroAgain();
        putNumbers();
        putLowestBits();
        moveStandsThere();
        moveNone();
        moveAsTheyAllWere();
        moveOrderOfErrors();
        ruesUpToTheFirstThatIsNot();
        ruesOfAsManyAsThereAre();
        judgeLacksAndTooMany();
        imageHowOften();
        imageOfFullRows();
        imageOfNobody();
        restoreTakesGuestsAway();
        restoreBackFromTheLastHour();
        restoreOfNone();
        tellUpToTwenty();
        checkFirstAndLastPlace();
        checkOfNoNumbers();
        countBounds();
        countOfNobodyAndOfSeven();
        toldBounds();
        toldCountsEach();
        toldOfManyCalls();
        due.end();
    }

    private static void refuses(String call, IntUnaryOperator act, int least, int most) {
        for (int v : new int[] {least - 1, most + 1, LEAST, MOST}) {
            due.is(call + " of " + v, act.applyAsInt(v), Due.BEYOND);
        }
        for (int v : new int[] {least, most}) {
            due.isTrue(call + " of " + v, act.applyAsInt(v) != Due.BEYOND);
        }
    }

    /** Number i of a SHEET with more bits than none, by way of its first number and RUE of GUEST 0. */
    private static int number(RegretPegs x, int sheet, int i) {
        x.change(0, 0, 777);
        x.move(sheet, i, sheet, 0, 1);
        return x.rues(sheet) == 0 ? -1 : x.ofGuest(0, 2);
    }

    // ---- promise 1

    /** "All as at first; no GUESTS."; "z is told (1 at first)"; "missing (as at first)". */
    private static void allIsAsAtFirst() {
        RegretPegs x = new RegretPegs();
        int[] counts = {0, 0, 0, 0, 0, -1, 0, 0, 0, 1};
        for (int what = 0; what < 10; what++) {
            due.is("1 count(" + what + ")", x.count(what), counts[what]);
        }
        for (int k = 1; k <= 5; k++) {
            due.is("1 told(" + k + ")", x.told(k), 0);
        }
        for (int sheet = 0; sheet < 4; sheet++) {
            due.is("1 SHEET " + sheet + " is missing", x.rues(sheet), Due.NONE);
        }
        due.is("1 no IMAGE", x.restore(), Due.NONE);
        due.is("1 no TRACE", x.trace(0), Due.NONE);
        due.is("1 no TEXT of DANCING", x.law(0, 7, 4, 9), 5);
        due.is("1 no TEXT of SHIFTS", x.law(1, 0, 0, 0), 1);
        due.is("1 nothing waits", x.check(), 0);
        due.is("1 nothing on THE TAPE", x.text(0), -10);
        due.is("1 no PEG", x.peg(0), Due.BEYOND);
        due.is("1 the first GUEST", x.guest(0, 0), 0);
        due.is("1 the first IMAGE", x.image(), 1);
    }

    private static void objectsShareNothing() {
        RegretPegs x = Due.ball(0, 5, 0, 6);
        Due.text(x, 0, "0");
        Due.text(x, 1, "0");
        Due.feed(x, "1");
        Due.sheet(x, 0, 8, 1, 2);
        x.seed(99);
        x.tell(1);
        x.voice(0, 3, 1);
        x.image();
        x.peg(9);
        allIsAsAtFirst();
    }

    // ---- promises 27 to 29

    /** "z becomes v: what it was (any number)." */
    private static void seedAnyNumber() {
        RegretPegs x = new RegretPegs();
        int was = 1;
        for (int v : new int[] {0, -1, LEAST, MOST, Due.BEYOND, Due.KIND, 1}) {
            due.is("27 seed(" + v + ")", x.seed(v), was);
            due.is("39 z", x.count(9), v);
            was = v;
        }
        for (int k = 1; k <= 5; k++) {
            due.is("40 none was an ERROR", x.told(k), 0);
        }
    }

    /** "VOICES of a GUEST .. 0 dances, 1 sighs, 2 looks, 3 tells": BEYOND. */
    private static void voiceBounds() {
        RegretPegs x = Due.ball(5, 0, 5, 0);
        refuses("28 guest", guest -> x.voice(guest, 0, 0), 0, 1);
        refuses("28 act", act -> x.voice(0, act, 0), 0, 3);
        due.is("28 nobody", new RegretPegs().voice(0, 0, 0), Due.BEYOND);
    }

    /** "with a number x (ints that go round)"; "any number". */
    private static void voiceGoesRound() {
        RegretPegs x = Due.ball(9, 0, 9, 0);
        due.is("28 above the most", x.voice(1, 0, MOST), LEAST);
        due.is("28 below the least", x.voice(0, 2, LEAST), MOST - 8);
        due.is("28 twice the most", x.voice(0, 1, MOST), -2);
        x.become(0, 30);
        due.is("28 less the least", x.voice(0, 2, LEAST), LEAST);
        x.become(0, 50);
        // 60: x + 1 goes round; 30, 11, 10: twice that is 0; less looks(1), which is 1.
        due.is("28 one more than the most", x.voice(0, 1, MOST), -1);
        due.is("28 one that looks like an ERROR", x.voice(1, 0, Due.STATE - 1), Due.STATE);
        due.is("40 it was none", x.told(3), 0);
    }

    /** "THE TRACE's i-th. NONE: there is none such." */
    private static void traceFirstAndLast() {
        RegretPegs x = Due.ball(60, 0);
        due.is("29 none yet", x.trace(0), Due.NONE);
        x.voice(0, 3, 0);
        int[] bodies = {71, 11, 10, 13, 11, 10, 70, 40, 12};
        due.is("39 BODIES", x.count(8), bodies.length);
        for (int i = 0; i < bodies.length; i++) {
            due.is("29 trace(" + i + ")", x.trace(i), bodies[i]);
        }
        for (int i : new int[] {-1, 9, 39, 40, LEAST, MOST}) {
            due.is("29 trace(" + i + ")", x.trace(i), Due.NONE);
        }
    }

    /** "the numbers of BODIES of the latest voice()": a shorter one leaves none of a longer, a refused one all. */
    private static void traceOfTheLatestVoice() {
        RegretPegs x = Due.ball(60, 0, 0, 0);
        x.voice(0, 3, 0);
        x.voice(1, 0, 0);
        due.is("29 one", x.count(8), 1);
        due.is("29 the one", x.trace(0), 10);
        due.is("29 none behind it", x.trace(1), Due.NONE);
        x.voice(2, 0, 0);
        x.voice(0, 4, 0);
        due.is("29 a refused one leaves it", x.count(8), 1);
        due.is("29 as it was", x.trace(0), 10);
    }

    /** "the first 40": no VOICE comes near it; the longest has 9. */
    private static void traceOfTheLongestVoice() {
        int[][] bodies = {{1, 2, 1, 4}, {2, 3, 1, 5}, {1, 4, 1, 6}, {1, 2, 2, 5}, {2, 3, 1, 8}, {1, 5, 1, 7}, {1, 2, 3, 9}};
        for (int kind = 0; kind < 7; kind++) {
            RegretPegs x = Due.ball(10 * kind, 0);
            for (int act = 0; act < 4; act++) {
                x.voice(0, act, 0);
                due.is("29 BODIES of KIND " + kind + ", act " + act, x.count(8), bodies[kind][act]);
                due.isTrue("29 the last", x.trace(bodies[kind][act] - 1) > 0);
                due.is("29 none behind it", x.trace(bodies[kind][act]), Due.NONE);
            }
        }
    }

    // ---- promise 30

    /** "SHEETS 0 .. 3": "BEYOND: no such SHEET". */
    private static void sheetNumbers() {
        RegretPegs x = Due.ball(0, 0);
        for (int sheet = 0; sheet < 4; sheet++) {
            due.is("30 SHEET " + sheet, x.sheet(sheet, 8, 2), 1);
        }
        refuses("30 sheet", s -> x.sheet(s, 8, 2), 0, 3);
        for (int sheet : new int[] {-1, 4, LEAST, MOST}) {
            due.is("30 SHEET " + sheet + ", to be missing", x.sheet(sheet, 0, 0), Due.BEYOND);
        }
        refuses("31 sheet", s -> x.put(s, 0, 0), 0, 3);
        refuses("32 sheet", s -> x.move(s, 0, 1, 0, 1), 0, 3);
        refuses("32 other", s -> x.move(1, 0, s, 0, 1), 0, 3);
        refuses("33 sheet", x::rues, 0, 3);
        refuses("34 sheet", x::judge, 0, 3);
    }

    /** "of so many bits (8, 16, 32; 0: it is missing ..)". */
    private static void sheetBits() {
        RegretPegs x = Due.ball(0, 0);
        for (int bits = -33; bits <= 65; bits++) {
            boolean may = bits == 0 || bits == 8 || bits == 16 || bits == 32;
            due.is("30 " + bits + " bits", x.sheet(0, bits, 1), may ? 1 : Due.BEYOND);
        }
        due.is("30 bits far below", x.sheet(0, LEAST, 1), Due.BEYOND);
        due.is("30 bits far above", x.sheet(0, MOST, 1), Due.BEYOND);
        due.is("30 the last that came stays: 32", x.put(0, 0, 999), 1);
        due.is("33 a number of it", x.rues(0), 1);
    }

    /** "at most 40 numbers". */
    private static void sheetSizes() {
        for (int bits : new int[] {8, 16, 32}) {
            RegretPegs x = Due.ball(0, 0);
            for (int n : new int[] {41, 42, MOST}) {
                due.is("30 " + n + " numbers", x.sheet(0, bits, n), Due.BEYOND);
                due.is("30 it is missing still", x.put(0, 0, 0), Due.NONE);
            }
            due.is("30 none", x.sheet(0, bits, 0), 1);
            due.is("31 of none", x.put(0, 0, 0), Due.BEYOND);
            due.is("30 one", x.sheet(0, bits, 1), 1);
            due.is("31 of one", x.put(0, 0, 0), 1);
            due.is("31 behind one", x.put(0, 1, 0), Due.BEYOND);
            due.is("30 forty", x.sheet(0, bits, 40), 1);
            due.is("31 of forty", x.put(0, 39, 5), 1);
            due.is("31 behind forty", x.put(0, 40, 5), Due.BEYOND);
            due.is("30 too many", x.sheet(0, bits, 41), Due.BEYOND);
            due.is("30 the numbers stay", number(x, 0, 39), 5);
        }
    }

    /** "STATE: n is below 0 (ahead of BEYOND of n)": and behind BEYOND of the SHEET and of the bits. */
    private static void sheetBelowNone() {
        RegretPegs x = Due.ball(0, 0);
        Due.sheet(x, 0, 8, 5);
        for (int n : new int[] {-1, -41, LEAST}) {
            for (int bits : new int[] {8, 16, 32}) {
                due.is("30 " + n + " numbers", x.sheet(0, bits, n), Due.STATE);
            }
            due.is("30 BEYOND of the SHEET ahead", x.sheet(4, 8, n), Due.BEYOND);
            due.is("30 BEYOND of the SHEET below ahead", x.sheet(-1, 8, n), Due.BEYOND);
            due.is("30 BEYOND of the bits ahead", x.sheet(0, 7, n), Due.BEYOND);
        }
        due.is("30 the number stays", number(x, 0, 0), 5);
    }

    /** "0: it is missing, n doesn't matter". */
    private static void sheetMissing() {
        for (int n : new int[] {0, -1, 41, LEAST, MOST}) {
            RegretPegs x = Due.ball(0, 0);
            x.sheet(0, 8, 1);
            due.is("30 no bits, n " + n, x.sheet(0, 0, n), 1);
            due.is("31 missing", x.put(0, 0, 0), Due.NONE);
            due.is("33 missing", x.rues(0), Due.NONE);
            due.is("34 missing", x.judge(0), Due.NONE);
            due.is("19 missing", x.whoDanced(0, 0), Due.NONE);
            due.is("30 once more", x.sheet(0, 0, n), 1);
            due.is("30 no such SHEET", x.sheet(4, 0, n), Due.BEYOND);
        }
    }

    /** "A SHEET has n numbers, all 0": the first, the last, of one that had others. */
    private static void sheetIsAllZeroAgain() {
        for (int bits : new int[] {8, 16, 32}) {
            RegretPegs x = Due.ball(0, 0);
            x.sheet(0, bits, 40);
            for (int i = 0; i < 40; i++) {
                x.put(0, i, 100 + i);
            }
            due.is("31 the last", number(x, 0, 27), 127);
            x.sheet(0, bits, 40);
            for (int i = 0; i < 40; i++) {
                due.is("30 number " + i, number(x, 0, i), 0);
            }
        }
    }

    // ---- promise 31

    /** "BEYOND: no such SHEET. NONE: it is missing. BEYOND: no such number." */
    private static void putNumbers() {
        RegretPegs x = Due.ball(0, 0);
        x.sheet(1, 16, 3);
        refuses("31 number", i -> x.put(1, i, 4), 0, 2);
        due.is("31 the one between is 0", number(x, 1, 1), 0);
        due.is("31 the last is 4", number(x, 1, 2), 4);
        due.is("31 no such SHEET, nor number", x.put(4, 3, 0), Due.BEYOND);
        due.is("31 NONE ahead of BEYOND", x.put(0, -1, 0), Due.NONE);
        due.is("31 NONE ahead of BEYOND, above", x.put(0, 40, 0), Due.NONE);
    }

    private static void putGives(int bits, int v, int number) {
        RegretPegs x = Due.ball(0, 0);
        Due.sheet(x, 0, bits, v);
        due.is("31 " + v + " of " + bits + " bits", number(x, 0, 0), number);
    }

    /** "becomes v (its lowest bits)"; -1 here stands for one that is no RUE. */
    private static void putLowestBits() {
        int[][] all = {
            {8, 0, 0}, {8, 127, 127}, {8, 256, 0}, {8, 255 + 128, 127}, {8, -256, 0}, {8, -255, 1}, {8, 65536 + 3, 3},
            {8, LEAST, 0}, {8, MOST, -1}, {8, -1, -1}, {8, 128, -1}, {8, 255, -1}, {8, -129, 127}, {8, -128, -1},
            {16, 0, 0}, {16, 256, 256}, {16, 999, 999}, {16, 1000, -1}, {16, 32767, -1}, {16, 32768, -1}, {16, 65535, -1},
            {16, 65536, 0}, {16, 65536 + 999, 999}, {16, -65536, 0}, {16, -65535, 1}, {16, -1, -1}, {16, LEAST, 0},
            {16, MOST, -1}, {32, 0, 0}, {32, 999, 999}, {32, 1000, -1}, {32, 65536, -1}, {32, -1, -1}, {32, LEAST, -1},
            {32, MOST, -1},
        };
        for (int[] a : all) {
            putGives(a[0], a[1], a[2]);
        }
    }

    // ---- promise 32

    private static String numbers(RegretPegs x, int sheet) {
        StringBuilder text = new StringBuilder();
        int n = x.rues(sheet);
        for (int i = 0; i < n; i++) {
            text.append(x.ofGuest(i, 2));
        }
        return text.toString();
    }

    /** SHEET 0 has 1 to 6, SHEET 1 four numbers of as many bits, SHEET 2 six of others, SHEET 3 is missing. */
    private static RegretPegs rows() {
        RegretPegs x = Due.ball(0, 0, 0, 0, 0, 0, 0, 0, 0, 0, 0, 0, 0, 0);
        Due.sheet(x, 0, 16, 1, 2, 3, 4, 5, 6);
        Due.sheet(x, 1, 16, 7, 8, 9, 0);
        x.sheet(2, 8, 6);
        return x;
    }

    /** "BEYOND: n, i, or j is below 0, or they don't stand there." */
    private static void moveStandsThere() {
        int[][] ijn = {{0, 0, 4}, {2, 0, 4}, {5, 3, 1}, {0, 3, 1}, {5, 0, 1}, {0, 0, 1}, {2, 2, 2}};
        String[] then = {"1234", "3456", "7896", "7891", "6890", "1890", "7834"};
        for (int k = 0; k < ijn.length; k++) {
            RegretPegs x = rows();
            due.is("32 " + then[k], x.move(0, ijn[k][0], 1, ijn[k][1], ijn[k][2]), ijn[k][2]);
            due.isTrue("32 " + then[k], numbers(x, 1).equals(then[k]));
            due.isTrue("32 the first stays", numbers(x, 0).equals("123456"));
        }
        int[][] beyond = {{0, 0, -1}, {-1, 0, 1}, {0, -1, 1}, {-1, 0, 0}, {0, -1, 0}, {0, 0, 5}, {3, 0, 4}, {0, 1, 4},
            {6, 0, 1}, {0, 4, 1}, {LEAST, 0, 1}, {0, LEAST, 1}, {0, 0, LEAST}, {MOST, 0, 1}, {0, MOST, 1}, {0, 0, MOST},
            {1, 0, MOST}, {0, 1, MOST}, {MOST, 0, MOST}, {-1, 1, 4}, {1, -1, 4}, {-1, -1, -1}};
        RegretPegs x = rows();
        for (int[] b : beyond) {
            due.is("32 move(0, " + b[0] + ", 1, " + b[1] + ", " + b[2] + ")", x.move(0, b[0], 1, b[1], b[2]), Due.BEYOND);
        }
        due.isTrue("32 all stay", numbers(x, 1).equals("7890"));
    }

    /** Of no numbers, too: they may stand just behind the last, not further. */
    private static void moveNone() {
        RegretPegs x = rows();
        due.is("32 none, from the first on", x.move(0, 0, 1, 0, 0), 0);
        due.is("32 none, behind the last", x.move(0, 6, 1, 4, 0), 0);
        due.is("32 none, further", x.move(0, 7, 1, 4, 0), Due.BEYOND);
        due.is("32 none, further there", x.move(0, 6, 1, 5, 0), Due.BEYOND);
        due.isTrue("32 all stay", numbers(x, 1).equals("7890"));
        x.sheet(1, 16, 0);
        due.is("32 none, to one of none", x.move(0, 0, 1, 0, 0), 0);
        due.is("32 one, to one of none", x.move(0, 0, 1, 0, 1), Due.BEYOND);
        RegretPegs y = Due.ball(0, 0);
        y.sheet(0, 8, 40);
        y.sheet(1, 8, 40);
        y.put(0, 39, 9);
        due.is("32 forty", y.move(0, 0, 1, 0, 40), 40);
        due.is("32 the last of forty", number(y, 1, 39), 9);
        due.is("32 forty-one", y.move(0, 0, 1, 0, 41), Due.BEYOND);
    }

    /** "come to another one (or the same) .. as they all were". */
    private static void moveAsTheyAllWere() {
        int[][] ijn = {{0, 1, 5}, {1, 0, 5}, {0, 2, 4}, {2, 0, 4}, {0, 5, 1}, {5, 0, 1}, {0, 0, 6}};
        String[] then = {"112345", "234566", "121234", "345656", "123451", "623456", "123456"};
        for (int k = 0; k < ijn.length; k++) {
            RegretPegs x = rows();
            due.is("32 on itself", x.move(0, ijn[k][0], 0, ijn[k][1], ijn[k][2]), ijn[k][2]);
            due.isTrue("32 on itself, " + then[k], numbers(x, 0).equals(then[k]));
        }
    }

    /** "BEYOND: no such SHEET. NONE: one is missing. KIND: they are of unlike bits. BEYOND: ..": in this order. */
    private static void moveOrderOfErrors() {
        RegretPegs x = rows();
        due.is("32 no such SHEET, the other missing", x.move(-1, 0, 3, 0, 0), Due.BEYOND);
        due.is("32 missing, no such other", x.move(3, 0, 4, 0, 0), Due.BEYOND);
        due.is("32 missing", x.move(3, 0, 0, 0, 0), Due.NONE);
        due.is("32 the other missing", x.move(0, 0, 3, 0, 0), Due.NONE);
        due.is("32 both missing, the same", x.move(3, 0, 3, 0, 0), Due.NONE);
        due.is("32 missing, and n below 0", x.move(3, 0, 0, 0, -1), Due.NONE);
        due.is("32 unlike bits", x.move(0, 0, 2, 0, 1), Due.KIND);
        due.is("32 unlike bits of none", x.move(0, 0, 2, 0, 0), Due.KIND);
        due.is("32 unlike bits, and n below 0", x.move(2, 0, 0, 0, -1), Due.KIND);
        due.is("32 unlike bits, and i beyond", x.move(2, 7, 0, 0, 0), Due.KIND);
        int[] bits = {8, 16, 32};
        for (int one : bits) {
            for (int other : bits) {
                x.sheet(0, one, 2);
                x.sheet(1, other, 2);
                due.is("32 " + one + " to " + other, x.move(0, 0, 1, 0, 2), one == other ? 2 : Due.KIND);
            }
        }
    }

    // ---- promises 33, 34

    /** "up to the first that is not 0 to 999 (no ERROR then)". */
    private static void ruesUpToTheFirstThatIsNot() {
        int[] numbers = {-1, 0, 999, 1000, LEAST, MOST};
        boolean[] may = {false, true, true, false, false, false};
        for (int at = 0; at < 3; at++) {
            for (int k = 0; k < numbers.length; k++) {
                RegretPegs x = Due.ball(0, 500, 0, 501, 0, 502);
                Due.sheet(x, 0, 32, 7, 8, 9);
                x.put(0, at, numbers[k]);
                due.is("33 " + numbers[k] + " at " + at, x.rues(0), may[k] ? 3 : at);
                for (int i = 0; i < 3; i++) {
                    int rue = i == at ? numbers[k] : 7 + i;
                    due.is("33 RUE of " + i, x.ofGuest(i, 2), may[k] || i < at ? rue : 500 + i);
                }
                for (int e = 1; e <= 5; e++) {
                    due.is("33 no ERROR", x.told(e), 0);
                }
            }
        }
    }

    /** "or for which there is no GUEST". */
    private static void ruesOfAsManyAsThereAre() {
        for (int guests = 0; guests <= 7; guests++) {
            for (int n : new int[] {0, 1, 6, 7, 8, 40}) {
                RegretPegs x = new RegretPegs();
                for (int i = 0; i < guests; i++) {
                    x.guest(0, 10);
                }
                x.sheet(0, 8, n);
                due.is("33 " + n + " numbers, " + guests + " GUESTS", x.rues(0), Math.min(n, guests));
                due.is("33 RUE together", x.count(2), 10 * Math.max(0, guests - n));
            }
        }
        RegretPegs x = Due.ball(0, 10);
        Due.sheet(x, 0, 32, 5, 1000);
        due.is("33 there is no GUEST for the one beyond", x.rues(0), 1);
    }

    /** "the first that isn't so (one that lacks, or is too many, too); -1: all are." */
    private static void judgeLacksAndTooMany() {
        int[] order = {6, 5, 4, 3, 2, 1, 0, 0};
        for (int guests = 0; guests <= 7; guests++) {
            for (int n = 0; n <= 8; n++) {
                RegretPegs x = new RegretPegs();
                for (int i = 0; i < guests; i++) {
                    x.guest(0, 0);
                }
                for (int p = 0; p < guests / 2; p++) {
                    x.hang(p, guests - 1 - p);
                }
                x.sheet(1, 16, n);
                for (int i = 0; i < n; i++) {
                    x.put(1, i, i < guests ? order[i] - (7 - guests) : 0);
                }
                due.is("34 " + n + " numbers, " + guests + " GUESTS", x.judge(1), n == guests ? -1 : Math.min(n, guests));
                for (int i = 0; i < n && i < guests; i++) {
                    x.put(1, i, -1);
                    due.is("34 not so at " + i, x.judge(1), i);
                    x.put(1, i, order[i] - (7 - guests));
                }
                due.is("34 no ERROR", x.told(1) + x.told(2), 0);
            }
        }
        RegretPegs x = Due.ball(0, 0);
        Due.sheet(x, 0, 32, 256);
        due.is("34 256 of 32 bits isn't 0", x.judge(0), 0);
        Due.sheet(x, 0, 8, 256);
        due.is("34 256 of 8 bits is", x.judge(0), -1);
    }

    // ---- promises 35, 36

    /** "how often that was done". */
    private static void imageHowOften() {
        RegretPegs x = new RegretPegs();
        for (int i = 1; i <= 30; i++) {
            due.is("35 image", x.image(), i);
            x.restore();
        }
    }

    /** "All .. is kept": of rows that are full, the last, too. */
    private static void imageOfFullRows() {
        RegretPegs x = Due.ball(0, 1, 11, 2, 22, 3, 33, 4, 44, 5, 55, 6, 66, 7);
        Due.text(x, 0, "!r" + "+o".repeat(24));
        Due.text(x, 1, "!d" + "+1".repeat(24));
        Due.feed(x, "1+".repeat(24) + "17");
        for (int i = 1; i <= 20; i++) {
            x.tell(x.allRue(i));
        }
        x.hang(0, 6);
        x.image();
        x.hang(5, 6);
        x.become(6, 0);
        x.change(6, 0, 0);
        x.change(6, 1, 3);
        x.change(6, 2, 0);
        x.text(0);
        Due.text(x, 1, "0");
        Due.feed(x, "2+".repeat(24) + "20");
        x.check();
        for (int i = 1; i <= 20; i++) {
            x.tell(-1);
        }
        due.is("36 HOUR", x.restore(), 0);
        due.isTrue("36 THE ORDER", Due.order(x).equals("6123450"));
        int[] of6 = {6, 6, 7, 0, 1, 0, -6};
        for (int what = 0; what < 7; what++) {
            due.is("36 of the last GUEST, " + what, x.ofGuest(6, what), of6[what]);
        }
        due.is("36 the TEXT of DANCING", x.law(0, 0, 3, 0), 73);
        due.is("36 the TEXT of SHIFTS", x.law(1, 1, 0, 0), 1);
        due.is("36 THE TAPE", x.count(6), 50);
        due.is("36 what stands on it", x.text(0), 1);
        due.is("36 up to its end", x.law(0, 0, 0, 0), 24 + 17);
        due.is("36 how many wait", x.count(7), 20);
        // So that all hang again as they did when the numbers were told: a FIANCE grows by his PEG.
        x.hang(0, 6);
        due.is("36 the numbers that wait", x.check(), 0);
    }

    /** An IMAGE of a new object: all is as at first. */
    private static void imageOfNobody() {
        RegretPegs x = new RegretPegs();
        due.is("35 of nobody", x.image(), 1);
        x.guest(69, 999);
        x.guest(0, 0);
        Due.text(x, 0, "0");
        Due.text(x, 1, "0");
        Due.feed(x, "1");
        x.seed(7);
        x.tell(1);
        x.hours(5);
        due.is("36 HOUR", x.restore(), 0);
        int[] counts = {0, 0, 0, 0, 0, -1, 0, 0, 0, 1};
        for (int what = 0; what < 10; what++) {
            due.is("36 count(" + what + ")", x.count(what), counts[what]);
        }
        due.is("36 no TEXT of DANCING", x.law(0, 7, 4, 9), 5);
        due.is("36 no TEXT of SHIFTS", x.law(1, 0, 0, 0), 1);
    }

    /** GUESTS who came behind the IMAGE are gone; who comes then is new, with the number that is free. */
    private static void restoreTakesGuestsAway() {
        RegretPegs x = Due.ball(0, 1, 0, 2);
        x.image();
        x.guest(44, 900);
        x.guest(45, 901);
        x.dance(2, 3);
        x.hang(0, 3);
        x.restore();
        due.is("36 two are there", x.count(0), 2);
        due.is("36 the third is gone", x.ofGuest(2, 0), Due.BEYOND);
        due.is("36 its PEG, too", x.peg(2), Due.BEYOND);
        due.is("2 one comes", x.guest(10, 3), 2);
        int[] is = {1, 0, 3, 0, 1, 2, 1};
        for (int what = 0; what < 7; what++) {
            due.is("3 of that one, " + what, x.ofGuest(2, what), is[what]);
        }
        for (int i = 3; i < 7; i++) {
            due.is("2 up to seven", x.guest(0, 0), i);
        }
        due.is("2 an eighth", x.guest(0, 0), Due.FULL);
        x.restore();
        due.is("36 two again", x.count(0), 2);
    }

    private static void restoreBackFromTheLastHour() {
        RegretPegs x = Due.ball(30, 5);
        x.image();
        for (int i = 0; i < 166; i++) {
            x.hours(60);
        }
        x.hours(39);
        due.is("13 no more", x.hours(1), Due.STATE);
        due.is("36 HOUR", x.restore(), 0);
        due.is("13 there are more", x.hours(60), 5);
        RegretPegs y = Due.late(9999, 30, 5);
        y.image();
        due.is("36 the last HOUR", y.restore(), 9999);
        due.is("13 no more of it", y.hours(1), Due.STATE);
    }

    /** "NONE: there is none." */
    private static void restoreOfNone() {
        RegretPegs x = Due.ball(0, 5);
        due.is("36 none", x.restore(), Due.NONE);
        due.is("36 nothing changed", x.count(2), 5);
        x.image();
        due.is("36 there is one", x.restore(), 0);
        due.is("36 it stays", x.restore(), 0);
    }

    // ---- promises 37, 38

    /** "One more number waits: how many. FULL: 20 wait." */
    private static void tellUpToTwenty() {
        RegretPegs x = new RegretPegs();
        for (int i = 1; i <= 20; i++) {
            due.is("37 tell", x.tell(0), i);
        }
        due.is("37 one more", x.tell(1), Due.FULL);
        due.is("37 twenty wait", x.count(7), 20);
        due.is("38 the one more doesn't", x.check(), 0);
        due.is("37 none wait", x.tell(0), 1);
    }

    /** "RUE of all together behind 1, 2, .. HOURS: 0; else 1 and the place (from 0) of the first that isn't so." */
    private static void checkFirstAndLastPlace() {
        for (int place = 0; place <= 20; place++) {
            for (int by = -1; by <= 1; by += 2) {
                RegretPegs x = Due.ball(0, 100, 20, 200);
                for (int i = 0; i < 20; i++) {
                    // All behind the first that isn't so are not so, either.
                    x.tell(300 + 3 * (i + 1) + (i >= place ? by : 0));
                }
                due.is("38 from place " + place, x.check(), place == 20 ? 0 : 1 + place);
                due.is("38 none wait then", x.count(7), 0);
                due.is("38 HOUR stays", x.count(1), 0);
                due.is("38 nothing is left of them", x.check(), 0);
            }
        }
        RegretPegs x = Due.ball(0, 998);
        x.tell(999);
        x.tell(999);
        due.is("38 held", x.check(), 0);
        x.tell(999);
        x.tell(1000);
        due.is("38 not held", x.check(), 2);
    }

    private static void checkOfNoNumbers() {
        due.is("38 of no numbers", Due.ball(0, 5).check(), 0);
        RegretPegs nobody = new RegretPegs();
        nobody.tell(0);
        due.is("38 of nobody", nobody.check(), 0);
        nobody.tell(1);
        due.is("38 of nobody, not so", nobody.check(), 1);
    }

    // ---- promises 39, 40

    /** "0 GUESTS .. 9 z (any number). BEYOND." */
    private static void countBounds() {
        RegretPegs x = Due.ball(0, 5);
        refuses("39 what", x::count, 0, 9);
        x.seed(Due.NONE);
        due.is("39 z that looks like an ERROR", x.count(9), Due.NONE);
        due.is("40 it is none", x.told(2), 0);
    }

    /** "4 who are IDLE, as a set, 5 whose cloak is on the last PEG (-1: nobody)". */
    private static void countOfNobodyAndOfSeven() {
        RegretPegs x = new RegretPegs();
        due.is("39 nobody's cloak", x.count(5), -1);
        due.is("39 nobody is IDLE", x.count(4), 0);
        for (int i = 0; i < 7; i++) {
            x.guest(0, 999);
            x.change(i, 1, 999);
            due.is("39 the last cloak", x.count(5), i);
            due.is("39 all are IDLE", x.count(4), (2 << i) - 1);
            due.is("39 RUE", x.count(2), 999 * (i + 1));
            due.is("39 DANCED", x.count(3), 999 * (i + 1));
        }
        for (int i = 0; i < 7; i++) {
            x.change(i, 2, 0);
            due.is("39 all but " + i, x.count(4), 127 - (1 << i));
            x.change(i, 2, 1);
        }
        x.hang(0, 6);
        due.is("39 the first one's cloak is the last", x.count(5), 0);
    }

    /** "(k 1 .. 5); BEYOND: another k (counted, too)". */
    private static void toldBounds() {
        RegretPegs x = new RegretPegs();
        int[] others = {0, 6, -1, -1000000001, LEAST, MOST};
        for (int i = 0; i < others.length; i++) {
            due.is("40 told(1)", x.told(1), i);
            due.is("40 told(" + others[i] + ")", x.told(others[i]), Due.BEYOND);
        }
        due.is("40 all are counted", x.told(1), others.length);
        for (int k = 2; k <= 5; k++) {
            due.is("40 told(" + k + ")", x.told(k), 0);
        }
    }

    /** "How many acts have answered an ERROR LOW - k": each counts for its own k alone. */
    private static void toldCountsEach() {
        RegretPegs x = Due.ball(0, 0);
        int[] told = new int[6];
        for (int round = 0; round < 6; round++) {
            for (int k = 1; k <= 5; k++) {
                due.is("40 told(" + k + ")", x.told(k), told[k]);
            }
            switch (round) {
                case 0: x.peg(1); told[1]++; break;
                case 1: x.restore(); told[2]++; break;
                case 2: x.sheet(0, 8, -1); told[3]++; break;
                case 3:
                    for (int i = 0; i < 21; i++) {
                        x.tell(0);
                    }
                    told[4]++;
                    break;
                default: x.as(0, 6); told[5]++;
            }
        }
    }

    /** An object is used for 512 calls; as many ERRORS, but one, are told. */
    private static void toldOfManyCalls() {
        RegretPegs x = new RegretPegs();
        for (int i = 0; i < 511; i++) {
            x.peg(0);
        }
        due.is("40 told(1)", x.told(1), 511);
    }
}
