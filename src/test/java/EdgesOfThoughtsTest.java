import java.util.function.IntUnaryOperator;

/**
 * The bounds that the document names under "Terms", 3, and in promises 15 to 26: each at its bound and one beside it. A
 * comment has the document's words.
 */
public final class EdgesOfThoughtsTest {
    private static final Due due = new Due();
    private static final int LEAST = Integer.MIN_VALUE;
    private static final int MOST = Integer.MAX_VALUE;

    public static void main(String[] args) {
        thoughtBeyondTheLastHour();
        thoughtChangesNothing();
        dancesOfWhoAreNotIdle();
        boundsOfHours();
        boundsOfGuests();
        boundsOfPegs();
        boundsOfWhat();
        thenNowAndBehindSixty();
        lastNowAtSixtyAndNot();
        partnerBehindTwenty();
        partnerOfSeveralTheLeast();
        partnerIsNotOneself();
        partnerOfOneAlone();
        dancesBehindSix();
        dancesNoneOneTwo();
        dancesOneIsEnoughAtThePeg();
        dancesTheLeastRow();
        dancesOfOneAlone();
        whoDancedFirstAndLastPair();
        whoDancedByManyPairs();
        whoDancedOfFew();
        whoDancedSizes();
        whoDancedByFewBits();
        inOrderNowAtSixtyAndNot();
        wrongsNoneToAll();
        wrongsOfPegsApart();
        swapNone();
        swapFirstAndLastPair();
        swapOfSeveralTheFirst();
        goBehindTwenty();
        goOfSeveralTheLeast();
        goOfOneAlone();
        allRueNowAndBehindSixty();
        sorriestOfSeveralTheLeast();
        sorriestOfNobody();
        oddsInLowestTerms();
        oddsBehindSixty();
        oddsOfOneAlone();
        due.end();
    }

    /** CHAPERONES, who don't grow, with these RUES. */
    private static RegretPegs still(int... rues) {
        RegretPegs x = new RegretPegs();
        for (int rue : rues) {
            x.guest(30, rue);
        }
        return x;
    }

    // ---- what holds for all of them

    /** 0 and 1 stay at 50 and 60; 2 grows from 10 on, on the last PEG at first. */
    private static void fiftySixtyTen(RegretPegs x, String when) {
        due.is("15 RUE behind 60" + when, x.then(60, 2, 0), 70);
        due.is("15 PEG behind 1" + when, x.then(1, 2, 1), 1);
        due.is("15 PEG behind 2" + when, x.then(2, 2, 1), 0);
        due.is("15 PEG behind 60" + when, x.then(60, 2, 1), 2);
        due.is("16 now" + when, x.last(2), 0);
        due.is("16 behind 1" + when, x.last(1), 1);
        due.is("16 not by 60" + when, x.last(0), Due.NONE);
        due.is("17 who" + when, x.partner(2, 2, 0), 0);
        due.is("17 the PEG" + when, x.partner(2, 2, 1), 1);
        due.is("18 none needed" + when, x.dances(2, 0, 2, 0), 0);
        due.is("20 RIGHT" + when, x.inOrder(), 2);
        due.is("23 who" + when, x.go(2, 1), 0);
        due.is("24 SUM" + when, x.allRue(60), 180);
        due.is("25 who" + when, x.sorriest(60, 0), 2);
        due.is("25 RUE" + when, x.sorriest(60, 1), 70);
        due.is("26 above" + when, x.odds(2, 1, 2, 0), 1);
        due.is("26 below" + when, x.odds(2, 1, 2, 1), 1);
        x.tell(121);
        x.tell(122);
        due.is("38 all so" + when, x.check(), 0);
    }

    /** "(All this is only thought, HOUR beyond 9999, too ..)" */
    private static void thoughtBeyondTheLastHour() {
        RegretPegs early = still(50, 60);
        early.guest(0, 10);
        fiftySixtyTen(early, "");
        RegretPegs late = Due.late(9999, 30, 50, 30, 60);
        late.guest(0, 10);
        fiftySixtyTen(late, ", beyond 9999");
        due.is("13 HOUR stays", late.count(1), 9999);
        due.is("13 nor does it go on", late.hours(1), Due.STATE);
    }

    /** "only thought": all of them asked, and nothing changed. */
    private static void thoughtChangesNothing() {
        RegretPegs x = Due.ball(42, 70, 51, 60, 0, 50, 23, 40, 69, 30);
        x.dance(1, 3);
        x.hang(0, 3);
        Due.sheet(x, 0, 16, 70, 50, 50, 50, 30);
        String were = all(x);
        x.then(60, 0, 0);
        x.last(2);
        x.partner(0, 20, 0);
        x.dances(4, 0, 6, 0);
        x.whoDanced(0, 0);
        x.inOrder();
        x.wrongs();
        x.swap();
        x.go(0, 20);
        x.allRue(60);
        x.sorriest(60, 0);
        x.odds(0, 0, 60, 0);
        due.isTrue("all is as it was", all(x).equals(were));
    }

    private static String all(RegretPegs x) {
        StringBuilder all = new StringBuilder(Due.order(x));
        for (int what = 0; what < 10; what++) {
            all.append(' ').append(x.count(what));
        }
        for (int guest = 0; guest < x.count(0); guest++) {
            for (int what = 0; what < 7; what++) {
                all.append(' ').append(x.ofGuest(guest, what));
            }
        }
        return all.toString();
    }

    /** "two DANCE whether IDLE or not" */
    private static void dancesOfWhoAreNotIdle() {
        for (int idle = 0; idle < 8; idle++) {
            RegretPegs x = still(100, 200, 300);
            for (int i = 0; i < 3; i++) {
                x.change(i, 2, idle >> i & 1);
            }
            // With 0 both come to 200, as 1 has: 2 stays on the last PEG, and so it does with 1.
            due.is("17 who", x.partner(2, 20, 0), 0);
            due.is("17 the PEG", x.partner(2, 20, 1), 2);
            due.is("26 above", x.odds(2, 1, 60, 0), 0);
            Due.sheet(x, 0, 16, 200, 200, 200);
            due.is("19 the first", x.whoDanced(0, 1), 2);
            // By no DANCE 0 has more than 1; by one with 1, then one with 2, it has 225, 1 has 150.
            due.is("18 how many", x.dances(1, 0, 6, 0), 2);
            due.is("18 the first of two", x.dances(1, 0, 6, 1), 1);
            x.change(0, 0, 102);
            due.is("18 one is enough", x.dances(1, 0, 6, 0), 1);
            due.is("18 that one", x.dances(1, 0, 6, 1), 2);
        }
    }

    private static void refuses(String call, IntUnaryOperator act, int least, int most) {
        for (int v : new int[] {least - 1, most + 1, LEAST, MOST}) {
            due.is(call + " of " + v, act.applyAsInt(v), Due.BEYOND);
        }
        for (int v : new int[] {least, most}) {
            due.isTrue(call + " of " + v, act.applyAsInt(v) != Due.BEYOND);
        }
    }

    /** "BEHIND n HOURS (0 to 60)", "by n (0 to 20)", "n (0 to 6)", "n 0 to 60": BEYOND. */
    private static void boundsOfHours() {
        RegretPegs x = still(10, 20, 30);
        refuses("15 n", n -> x.then(n, 0, 0), 0, 60);
        refuses("17 n", n -> x.partner(0, n, 0), 0, 20);
        refuses("18 n", n -> x.dances(0, 0, n, 0), 0, 6);
        refuses("23 n", n -> x.go(0, n), 0, 20);
        refuses("24 n", x::allRue, 0, 60);
        refuses("25 n", n -> x.sorriest(n, 0), 0, 60);
        refuses("26 n", n -> x.odds(0, 0, n, 0), 0, 60);
    }

    private static void boundsOfGuests() {
        RegretPegs x = still(10, 20, 30);
        refuses("15 guest", g -> x.then(0, g, 0), 0, 2);
        refuses("16 guest", x::last, 0, 2);
        refuses("17 guest", g -> x.partner(g, 0, 0), 0, 2);
        refuses("18 guest", g -> x.dances(g, 2, 0, 0), 0, 2);
        refuses("23 guest", g -> x.go(g, 0), 0, 2);
        refuses("26 guest", g -> x.odds(g, 0, 0, 0), 0, 2);
        RegretPegs nobody = new RegretPegs();
        due.is("15 nobody", nobody.then(0, 0, 0), Due.BEYOND);
        due.is("16 nobody", nobody.last(0), Due.BEYOND);
        due.is("17 nobody", nobody.partner(0, 0, 0), Due.BEYOND);
        due.is("18 nobody", nobody.dances(0, 0, 0, 0), Due.BEYOND);
        due.is("23 nobody", nobody.go(0, 0), Due.BEYOND);
        due.is("26 nobody", nobody.odds(0, 0, 0, 0), Due.BEYOND);
    }

    private static void boundsOfPegs() {
        RegretPegs x = still(10, 20, 30);
        refuses("18 peg", p -> x.dances(0, p, 0, 0), 0, 2);
        refuses("26 peg", p -> x.odds(0, p, 0, 0), 0, 2);
    }

    private static void boundsOfWhat() {
        RegretPegs x = still(10, 20, 30);
        Due.sheet(x, 0, 8, 15, 15, 30);
        refuses("15 what", w -> x.then(0, 0, w), 0, 1);
        refuses("17 what", w -> x.partner(0, 0, w), 0, 1);
        refuses("18 what", w -> x.dances(0, 0, 0, w), 0, 1);
        refuses("19 what", w -> x.whoDanced(0, w), 0, 1);
        refuses("25 what", w -> x.sorriest(0, w), 0, 1);
        refuses("26 part", w -> x.odds(0, 0, 0, w), 0, 1);
        refuses("19 sheet", s -> x.whoDanced(s, 0), 0, 3);
    }

    // ---- one by one

    /** "BEHIND n HOURS (0 to 60): nobody DANCES in them." */
    private static void thenNowAndBehindSixty() {
        RegretPegs x = Due.ball(0, 10, 30, 69);
        due.is("15 RUE now", x.then(0, 0, 0), 10);
        due.is("15 RUE behind 1", x.then(1, 0, 0), 11);
        due.is("15 RUE behind 60", x.then(60, 0, 0), 70);
        due.is("15 PEG now", x.then(0, 0, 1), 0);
        due.is("15 PEG behind 59", x.then(59, 0, 1), 0);
        due.is("15 PEG behind 60", x.then(60, 0, 1), 1);
        due.is("15 PEG of the other behind 60", x.then(60, 1, 1), 0);
        RegretPegs wrong = still(20, 10);
        due.is("15 now nothing shifts", wrong.then(0, 0, 1), 0);
        due.is("15 behind 1 it does", wrong.then(1, 0, 1), 1);
    }

    /** "LAST: behind how many HOURS (0 to 60) a told GUEST is on the last PEG first."; "NONE: not by 60." */
    private static void lastNowAtSixtyAndNot() {
        due.is("16 now", still(10, 20).last(1), 0);
        due.is("16 one alone", still(10).last(0), 0);
        due.is("16 behind 1", still(20, 10).last(0), 1);
        due.is("16 now, and not behind 1", still(20, 10).last(1), 0);
        due.is("16 at 59", Due.ball(0, 10, 30, 68).last(0), 59);
        due.is("16 at 60", Due.ball(0, 10, 30, 69).last(0), 60);
        due.is("16 at 61", Due.ball(0, 10, 30, 70).last(0), Due.NONE);
        due.is("16 never", still(10, 20).last(0), Due.NONE);
    }

    /** "PARTNER for a GUEST by n (0 to 20) .. one's PEG would be least behind n HOURS". */
    private static void partnerBehindTwenty() {
        // RUE stays by a DANCE; who danced doesn't grow in the first HOUR: 29 behind 20.
        RegretPegs x = Due.ball(0, 10, 30, 28);
        Due.text(x, 0, "r");
        due.is("17 PEG by 0", x.partner(0, 0, 1), 0);
        due.is("17 PEG by 19", x.partner(0, 19, 1), 0);
        due.is("17 PEG by 20", x.partner(0, 20, 1), 1);
        due.is("17 who by 20", x.partner(0, 20, 0), 1);
    }

    /** "of several the least": by number, not by PEG; one better is taken, though its number is more. */
    private static void partnerOfSeveralTheLeast() {
        RegretPegs x = still(10, 10, 10, 90);
        x.hang(0, 2);
        due.is("17 of three alike", x.partner(3, 20, 0), 0);
        due.is("17 of those but oneself", x.partner(0, 0, 0), 1);
        RegretPegs y = still(500, 500, 0, 100, 900);
        // 900 and 0 is 450, ahead of both 500; with the others it stays behind them.
        due.is("17 the better one", y.partner(4, 20, 0), 2);
        due.is("17 its PEG", y.partner(4, 20, 1), 2);
    }

    /** "the other one": the least that isn't oneself. */
    private static void partnerIsNotOneself() {
        RegretPegs x = still(5, 5);
        due.is("17 of 0", x.partner(0, 0, 0), 1);
        due.is("17 of 1", x.partner(1, 0, 0), 0);
        due.is("17 PEG of 1", x.partner(1, 0, 1), 1);
    }

    /** "NONE: there is nobody else." */
    private static void partnerOfOneAlone() {
        RegretPegs x = still(5);
        due.is("17 who", x.partner(0, 0, 0), Due.NONE);
        due.is("17 the PEG", x.partner(0, 20, 1), Due.NONE);
        due.is("17 BEYOND ahead of NONE, n", x.partner(0, 21, 0), Due.BEYOND);
        due.is("17 BEYOND ahead of NONE, what", x.partner(0, 0, 2), Due.BEYOND);
        due.is("17 BEYOND ahead of NONE, guest", x.partner(1, 0, 0), Due.BEYOND);
        x.guest(0, 0);
        due.is("17 of two", x.partner(0, 0, 0), 1);
    }

    /** "DANCES for a GUEST, a PEG p, n (0 to 6)". */
    private static void dancesBehindSix() {
        RegretPegs x = Due.ball(0, 10, 30, 15);
        Due.text(x, 0, "r");
        due.is("18 by 0", x.dances(0, 0, 0, 0), 0);
        due.is("18 by 5", x.dances(0, 0, 5, 0), 0);
        // 16 behind 6 HOURS; 15, if it isn't IDLE in the first.
        due.is("18 by 6", x.dances(0, 0, 6, 0), 1);
        due.is("18 by 6, the first", x.dances(0, 0, 6, 1), 1);
        x.change(1, 0, 14);
        due.is("18 by 5 then", x.dances(0, 0, 5, 0), 1);
        // Who danced twice is no less IDLE than who danced once.
        due.is("18 by 6 then", x.dances(0, 0, 6, 0), Due.NONE);
    }

    /** "the fewest (0 to 2) .. (-1: none needed)"; "NONE: not by two." */
    private static void dancesNoneOneTwo() {
        // 0 comes to 5 more by each DANCE, 1 to no more; it hangs ahead of 0 when 0 has more.
        int[] rues = {0, 1, 4, 5, 9, 10, 11};
        int[] many = {1, 1, 1, 2, 2, Due.NONE, Due.NONE};
        for (int i = 0; i < rues.length; i++) {
            RegretPegs x = Due.ball(35, 0, 30, rues[i]);
            Due.text(x, 0, "r+m");
            due.is("18 how many, RUE " + rues[i], x.dances(1, 0, 1, 0), many[i]);
            due.is("18 the first, RUE " + rues[i], x.dances(1, 0, 1, 1), many[i] < 0 ? Due.NONE : 1);
            due.is("18 it hangs behind anyway", x.dances(1, 1, 1, 0), 0);
            due.is("18 none needed", x.dances(1, 1, 1, 1), -1);
            due.is("18 not in no HOURS", x.dances(1, 0, 0, 0), Due.NONE);
        }
    }

    /** "one is on PEG p or one ahead of it". */
    private static void dancesOneIsEnoughAtThePeg() {
        RegretPegs x = still(10, 20, 30);
        for (int guest = 0; guest < 3; guest++) {
            for (int peg = 0; peg < 3; peg++) {
                due.is("18 of " + guest + " for " + peg + ", now", x.dances(guest, peg, 0, 0), guest <= peg ? 0 : Due.NONE);
            }
        }
    }

    /** "the first one (10 times the lesser, and the other; of several such rows the least ..)". */
    private static void dancesTheLeastRow() {
        // With the TEXT o two change RUES. 6 has 70 on the last PEG.
        RegretPegs x = still(10, 20, 30, 40, 50, 60, 70);
        Due.text(x, 0, "o");
        due.is("18 for PEG 5", x.dances(6, 5, 6, 0), 1);
        due.is("18 for PEG 5, with 0", x.dances(6, 5, 6, 1), 6);
        due.is("18 for PEG 0, with 0", x.dances(6, 0, 6, 1), 6);
        due.is("18 none is needed, where it shifts anyway", still(10, 20, 30, 40, 50, 70, 60).dances(6, 5, 6, 1), -1);
        RegretPegs last = still(0, 0, 0, 0, 0, 60, 70);
        Due.text(last, 0, "r-(r=70)*20");
        // Only 70 is less by a DANCE, with anybody.
        due.is("18 with the least", last.dances(6, 5, 6, 1), 6);
        RegretPegs only = Due.ball(30, 0, 30, 0, 30, 0, 30, 0, 30, 0, 31, 60, 30, 70);
        Due.text(only, 0, "r+(m>0)*(o>0)*20");
        due.is("18 only 5 and 6 help", only.dances(6, 5, 6, 0), 1);
        due.is("18 the last pair", only.dances(6, 5, 6, 1), 56);
    }

    /** Of one alone no DANCE is needed. */
    private static void dancesOfOneAlone() {
        due.is("18 how many", Due.ball(0, 5).dances(0, 0, 6, 0), 0);
        due.is("18 the first", Due.ball(0, 5).dances(0, 0, 6, 1), -1);
        due.is("18 another PEG", Due.ball(0, 5).dances(0, 1, 6, 0), Due.BEYOND);
    }

    /** "the first (10 times the lesser, and the other)". */
    private static void whoDancedFirstAndLastPair() {
        RegretPegs x = still(10, 20, 40, 80, 160, 320, 640);
        int[] rues = {10, 20, 40, 80, 160, 320, 640};
        for (int one = 0; one < 7; one++) {
            for (int other = one + 1; other < 7; other++) {
                int[] row = rues.clone();
                row[one] = (rues[one] + rues[other]) / 2;
                row[other] = row[one];
                RegretPegs y = still(rues);
                Due.sheet(y, 3, 32, row);
                due.is("19 how many", y.whoDanced(3, 0), 1);
                due.is("19 who", y.whoDanced(3, 1), 10 * one + other);
                y.put(3, other, row[other] + 1);
                due.is("19 one more", y.whoDanced(3, 0), 0);
                y.put(3, other, row[other] - 1);
                due.is("19 one less", y.whoDanced(3, 1), Due.NONE);
            }
        }
        Due.sheet(x, 0, 16, rues);
        due.is("19 nobody danced", x.whoDanced(0, 0), 0);
        due.is("19 nobody, the first", x.whoDanced(0, 1), Due.NONE);
    }

    /** "pairs by which that is so: how many": each two once, all of seven alike are 21. */
    private static void whoDancedByManyPairs() {
        RegretPegs x = still(5, 5, 5, 5, 5, 5, 5);
        Due.sheet(x, 0, 8, 5, 5, 5, 5, 5, 5, 5);
        due.is("19 all", x.whoDanced(0, 0), 21);
        due.is("19 the first of all", x.whoDanced(0, 1), 1);
        x.change(0, 0, 9);
        Due.sheet(x, 0, 8, 9, 5, 5, 5, 5, 5, 5);
        due.is("19 all but one", x.whoDanced(0, 0), 15);
        due.is("19 the first but one", x.whoDanced(0, 1), 12);
    }

    /** "(what 1) there are none": of nobody, of one. */
    private static void whoDancedOfFew() {
        RegretPegs x = new RegretPegs();
        x.sheet(0, 8, 0);
        due.is("19 of nobody", x.whoDanced(0, 0), 0);
        due.is("19 of nobody, the first", x.whoDanced(0, 1), Due.NONE);
        x.guest(0, 0);
        x.sheet(0, 8, 1);
        due.is("19 of one", x.whoDanced(0, 0), 0);
        due.is("19 of one, the first", x.whoDanced(0, 1), Due.NONE);
    }

    /** "NONE: the SHEET is missing, has not as many numbers as there are GUESTS". */
    private static void whoDancedSizes() {
        RegretPegs x = still(0, 0, 0);
        for (int n : new int[] {0, 2, 3, 4, 40}) {
            x.sheet(0, 32, n);
            due.is("19 " + n + " numbers", x.whoDanced(0, 0), n == 3 ? 3 : Due.NONE);
            due.is("19 " + n + " numbers, the first", x.whoDanced(0, 1), n == 3 ? 1 : Due.NONE);
        }
        x.sheet(0, 0, 3);
        due.is("19 missing", x.whoDanced(0, 0), Due.NONE);
        due.is("19 BEYOND ahead of NONE", x.whoDanced(0, 2), Due.BEYOND);
    }

    /** "rows of 8, 16, 32 bits": a number of 8 bits is at most 127, as Java's byte; RUE that is more isn't told by it. */
    private static void whoDancedByFewBits() {
        for (int rue : new int[] {127, 128, 255, 256, 999}) {
            for (int bits : new int[] {8, 16, 32}) {
                RegretPegs x = still(rue, rue);
                Due.sheet(x, 0, bits, rue, rue);
                due.is("19 RUE " + rue + " by " + bits + " bits", x.whoDanced(0, 0), bits == 8 && rue > 127 ? 0 : 1);
            }
        }
    }

    /** "RIGHT: behind how many HOURS (0 to 60) no two PEGS are WRONG first."; "NONE: not by 60." */
    private static void inOrderNowAtSixtyAndNot() {
        due.is("20 nobody", new RegretPegs().inOrder(), 0);
        due.is("20 one", still(5).inOrder(), 0);
        due.is("20 now", still(5, 6).inOrder(), 0);
        due.is("20 alike", still(5, 5).inOrder(), 0);
        due.is("20 behind 1", still(6, 5).inOrder(), 1);
        due.is("20 behind 6", still(7, 6, 5, 4, 3, 2, 1).inOrder(), 6);
        int[] rues = {11, 10, 9, 0};
        int[] right = {59, 60, Due.NONE, Due.NONE};
        for (int i = 0; i < rues.length; i++) {
            RegretPegs x = Due.ball(30, 70, 0, rues[i]);
            Due.text(x, 1, "0");
            due.is("20 RUE " + rues[i], x.inOrder(), right[i]);
        }
    }

    /** "WRONG: how many pairs of PEGS there are ..": none of nobody and of one, 21 of seven. */
    private static void wrongsNoneToAll() {
        due.is("21 nobody", new RegretPegs().wrongs(), 0);
        due.is("21 one", still(999).wrongs(), 0);
        due.is("21 two", still(1, 0).wrongs(), 1);
        due.is("21 all", still(7, 6, 5, 4, 3, 2, 1).wrongs(), 21);
        due.is("21 none of seven", still(1, 2, 3, 4, 5, 6, 7).wrongs(), 0);
        due.is("21 alike", still(7, 7, 7, 7, 7, 7, 7).wrongs(), 0);
    }

    /** "(also such as aren't next to each other)". */
    private static void wrongsOfPegsApart() {
        due.is("21 the first and the last", still(5, 5, 5, 4).wrongs(), 3);
        due.is("21 two apart", still(2, 3, 1).wrongs(), 2);
        due.is("21 the first behind all", still(9, 1, 2, 3, 4, 5, 6).wrongs(), 6);
    }

    /** "if less than now"; "(-1: none)". */
    private static void swapNone() {
        RegretPegs x = new RegretPegs();
        due.is("22 nobody", x.swap(), -1);
        due.is("22 it is no ERROR", x.told(1) + x.told(2), 0);
        due.is("22 one", still(5).swap(), -1);
        due.is("22 alike", still(5, 5, 5).swap(), -1);
        due.is("22 right", still(5, 6, 7).swap(), -1);
    }

    /** "10 times the lesser, and the other". */
    private static void swapFirstAndLastPair() {
        due.is("22 0 and 1", still(2, 1, 3, 4, 5, 6, 7).swap(), 1);
        due.is("22 5 and 6", still(1, 2, 3, 4, 5, 7, 6).swap(), 56);
        due.is("22 0 and 6", still(7, 2, 3, 4, 5, 6, 1).swap(), 6);
        RegretPegs x = still(1, 2);
        x.hang(0, 1);
        due.is("22 the lesser is written ahead, though it hangs behind", x.swap(), 1);
    }

    /** "of several the first": by numbers, not by PEGS; one that makes it less is taken, though it comes later. */
    private static void swapOfSeveralTheFirst() {
        due.is("22 two such", still(2, 1, 4, 3).swap(), 1);
        RegretPegs x = still(4, 3, 2, 1);
        x.hang(0, 2);
        x.hang(1, 3);
        // On the PEGS: 2 with 2, 3 with 1, 0 with 4, 1 with 3.
        due.is("22 two such, the first hangs behind", x.swap(), 1);
        due.is("22 a later one is better", still(2, 1, 9, 8, 3).swap(), 24);
    }

    /** "GO for a GUEST by n (0 to 20): who else, were RUE of that one 0 now, makes one's PEG least behind n HOURS". */
    private static void goBehindTwenty() {
        RegretPegs x = Due.ball(0, 10, 30, 35, 30, 29);
        // 0 hangs behind whoever has 0 then, and passes 2 at 30, behind 20 HOURS.
        due.is("23 by 0", x.go(0, 0), 1);
        due.is("23 by 19", x.go(0, 19), 1);
        due.is("23 by 20", x.go(0, 20), 2);
    }

    /** "of several the least". */
    private static void goOfSeveralTheLeast() {
        RegretPegs x = still(10, 20, 30, 40);
        due.is("23 of 3", x.go(3, 20), 0);
        due.is("23 of 0: not oneself", x.go(0, 20), 1);
        x.hang(0, 2);
        due.is("23 by number, not by PEG", x.go(3, 20), 0);
        // 1 is ahead anyway.
        due.is("23 the better one", still(30, 0, 20).go(2, 20), 1);
    }

    /** "NONE: there is nobody else." */
    private static void goOfOneAlone() {
        RegretPegs x = still(5);
        due.is("23 alone", x.go(0, 0), Due.NONE);
        due.is("23 BEYOND ahead of NONE, n", x.go(0, 21), Due.BEYOND);
        due.is("23 BEYOND ahead of NONE, guest", x.go(1, 0), Due.BEYOND);
        x.guest(30, 0);
        due.is("23 of two", x.go(0, 0), 1);
        due.is("23 of the other", x.go(1, 0), 0);
    }

    /** "SUM, n 0 to 60." */
    private static void allRueNowAndBehindSixty() {
        RegretPegs x = Due.ball(0, 10, 0, 20);
        due.is("24 now", x.allRue(0), 30);
        due.is("24 behind 1", x.allRue(1), 32);
        due.is("24 behind 60", x.allRue(60), 150);
        due.is("24 most", Due.ball(0, 999, 0, 999, 0, 999, 0, 999, 0, 999, 0, 999, 0, 999).allRue(60), 6993);
        due.is("24 nobody", new RegretPegs().allRue(60), 0);
    }

    /** "the one with most RUE; of several the least; RUE." */
    private static void sorriestOfSeveralTheLeast() {
        RegretPegs x = still(5, 7, 7, 7);
        x.hang(1, 3);
        due.is("25 by number, not by PEG", x.sorriest(0, 0), 1);
        due.is("25 all alike", still(7, 7, 7).sorriest(60, 0), 0);
        due.is("25 all 0", still(0, 0).sorriest(0, 1), 0);
        RegretPegs y = Due.ball(30, 70, 0, 10);
        due.is("25 behind 59", y.sorriest(59, 0), 0);
        due.is("25 behind 60, of two alike", y.sorriest(60, 0), 0);
        y.change(1, 0, 11);
        due.is("25 behind 60, one more", y.sorriest(60, 0), 1);
        due.is("25 behind 60, RUE", y.sorriest(60, 1), 71);
    }

    /** "NONE: there is nobody." */
    private static void sorriestOfNobody() {
        RegretPegs x = new RegretPegs();
        due.is("25 who", x.sorriest(0, 0), Due.NONE);
        due.is("25 RUE", x.sorriest(60, 1), Due.NONE);
        due.is("25 BEYOND ahead of NONE, n", x.sorriest(61, 0), Due.BEYOND);
        due.is("25 BEYOND ahead of NONE, what", x.sorriest(0, 2), Due.BEYOND);
        x.guest(0, 0);
        due.is("25 of one", x.sorriest(0, 0), 0);
    }

    /** "a fraction in lowest terms (0 is 0 by 1)." */
    private static void oddsInLowestTerms() {
        RegretPegs x = still(10, 20, 30, 40, 50, 60, 600);
        Due.text(x, 0, "o");
        // By a DANCE two change RUES: with k, 6 comes to PEG k.
        int[][] odds = {{1, 6}, {1, 3}, {1, 2}, {2, 3}, {5, 6}, {1, 1}, {1, 1}};
        for (int peg = 0; peg < 7; peg++) {
            due.is("26 above, PEG " + peg, x.odds(6, peg, 20, 0), odds[peg][0]);
            due.is("26 below, PEG " + peg, x.odds(6, peg, 20, 1), odds[peg][1]);
        }
        due.is("26 never, above", x.odds(6, 5, 0, 0), 0);
        due.is("26 never, below", x.odds(6, 5, 0, 1), 1);
        due.is("26 always, above", x.odds(6, 6, 0, 0), 1);
        due.is("26 always, below", x.odds(6, 6, 0, 1), 1);
        RegretPegs five = still(10, 20, 30, 40, 600);
        Due.text(five, 0, "o");
        due.is("26 two of four, above", five.odds(4, 1, 60, 0), 1);
        due.is("26 two of four, below", five.odds(4, 1, 60, 1), 2);
        due.is("26 three of four, above", five.odds(4, 2, 60, 0), 3);
        due.is("26 three of four, below", five.odds(4, 2, 60, 1), 4);
    }

    /** "ODDS, n 0 to 60". */
    private static void oddsBehindSixty() {
        RegretPegs x = Due.ball(0, 10, 30, 68);
        Due.text(x, 0, "r");
        due.is("26 behind 59", x.odds(0, 0, 59, 0), 1);
        due.is("26 behind 60", x.odds(0, 0, 60, 0), 0);
        due.is("26 behind 60, below", x.odds(0, 0, 60, 1), 1);
        due.is("26 behind 60, PEG 1", x.odds(0, 1, 60, 0), 1);
    }

    /** "NONE: there is nobody else." */
    private static void oddsOfOneAlone() {
        RegretPegs x = still(5);
        due.is("26 above", x.odds(0, 0, 0, 0), Due.NONE);
        due.is("26 below", x.odds(0, 0, 60, 1), Due.NONE);
        due.is("26 BEYOND ahead of NONE, guest", x.odds(1, 0, 0, 0), Due.BEYOND);
        due.is("26 BEYOND ahead of NONE, peg", x.odds(0, 1, 0, 0), Due.BEYOND);
        due.is("26 BEYOND ahead of NONE, n", x.odds(0, 0, 61, 0), Due.BEYOND);
        due.is("26 BEYOND ahead of NONE, part", x.odds(0, 0, 0, 2), Due.BEYOND);
        x.guest(30, 0);
        due.is("26 of two", x.odds(0, 0, 0, 1), 1);
    }
}
