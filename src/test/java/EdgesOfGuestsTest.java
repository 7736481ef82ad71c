/**
 * The bounds that the document names under "Terms", 1, and in promises 1 to 8 and 12 to 14: each at its bound and one
 * beside it. A comment has the document's words.
 */
public final class EdgesOfGuestsTest {
    private static final Due due = new Due();
    private static final int LEAST = Integer.MIN_VALUE;
    private static final int MOST = Integer.MAX_VALUE;

    public static void main(String[] args) {
        errorsAreTheseNumbers();
        guestsAreAtMostSeven();
        kindAndNumber();
        rueOfANewOne();
        aNewOneIsIdleAndHasNotDanced();
        aNewOneHangsLast();
        wrongIsMoreNotAlike();
        girlGrowsByTheRestOfThree();
        beautyGrowsFourTimesTillSheDanced();
        fianceGrowsByPegsBehind();
        auntGrowsLess();
        danceTakesRuesAsTheyWere();
        dancedIsHeld();
        danceMakesNotIdle();
        danceOfWhoIsNot();
        hourHoldsRue();
        hourGrowsTheIdleAlone();
        hourGrowsByTheOrderAsItIs();
        hourShiftsOnceFromPegZero();
        hourShiftsByTheOtherText();
        hourMakesAllIdle();
        hoursOneToSixty();
        hourUpToLast();
        looseOneToForty();
        looseUpToLastHour();
        looseOfNoneOneTwo();
        looseDrawsTheSameOneTwice();
        looseDrawsBelowZero();
        looseOfWhoAreNotIdle();
        ofGuestBounds();
        changeBounds();
        pegBounds();
        hangBounds();
        becomeBounds();
        asBounds();
        due.end();
    }

    // ---- Terms, the head

    /** "LOW is -1000000000; LOW - 1 BEYOND, LOW - 2 NONE, LOW - 3 STATE, LOW - 4 FULL, LOW - 5 KIND." */
    private static void errorsAreTheseNumbers() {
        RegretPegs x = Due.ball(0, 0);
        due.is("BEYOND", x.peg(1), -1000000001);
        due.is("NONE", x.restore(), -1000000002);
        due.is("STATE", x.sheet(0, 8, -1), -1000000003);
        for (int i = 0; i < 20; i++) {
            x.tell(0);
        }
        due.is("FULL", x.tell(0), -1000000004);
        due.is("KIND", x.as(0, 1), -1000000005);
    }

    // ---- Terms, 1, and promise 2

    /** "GUESTS 0, 1, .. (at most 7)"; "FULL". */
    private static void guestsAreAtMostSeven() {
        RegretPegs x = new RegretPegs();
        for (int i = 0; i < 7; i++) {
            due.is("2 the number", x.guest(0, i), i);
        }
        due.is("2 an eighth", x.guest(0, 7), Due.FULL);
        due.is("2 seven are there", x.count(0), 7);
        due.is("2 the seventh is there", x.ofGuest(6, 2), 6);
        due.is("2 an eighth isn't", x.ofGuest(7, 2), Due.BEYOND);
        due.is("2 km beyond ahead of FULL", x.guest(70, 0), Due.BEYOND);
        due.is("2 rue beyond ahead of FULL", x.guest(0, -1), Due.BEYOND);
    }

    /** "A GUEST (km: 10 times the KIND, and m)"; "m (0 to 9)". */
    private static void kindAndNumber() {
        for (int km : new int[] {0, 9, 10, 19, 20, 29, 30, 39, 40, 49, 50, 59, 60, 69}) {
            RegretPegs x = new RegretPegs();
            due.is("2 km " + km, x.guest(km, 0), 0);
            due.is("2 KIND of " + km, x.ofGuest(0, 0), km / 10);
            due.is("2 m of " + km, x.ofGuest(0, 1), km % 10);
        }
        for (int km : new int[] {-1, -10, 70, 100, LEAST, MOST}) {
            RegretPegs x = new RegretPegs();
            due.is("2 km " + km, x.guest(km, 0), Due.BEYOND);
            due.is("2 nobody came", x.count(0), 0);
        }
    }

    /** "RUE (0 to 999)". */
    private static void rueOfANewOne() {
        for (int rue : new int[] {0, 1, 998, 999}) {
            RegretPegs x = new RegretPegs();
            due.is("2 rue " + rue, x.guest(0, rue), 0);
            due.is("2 RUE", x.ofGuest(0, 2), rue);
        }
        for (int rue : new int[] {-1, 1000, LEAST, MOST}) {
            RegretPegs x = new RegretPegs();
            due.is("2 rue " + rue, x.guest(0, rue), Due.BEYOND);
            due.is("2 nobody came", x.count(0), 0);
        }
    }

    /** "DANCED (.. 0 at first), IDLE (1 at first ..)": also of one who comes while others have danced. */
    private static void aNewOneIsIdleAndHasNotDanced() {
        RegretPegs x = Due.ball(0, 5, 0, 6);
        x.dance(0, 1);
        due.is("2 the next", x.guest(0, 7), 2);
        due.is("2 DANCED", x.ofGuest(2, 3), 0);
        due.is("2 IDLE", x.ofGuest(2, 4), 1);
        due.is("2 who are IDLE", x.count(4), 4);
    }

    /** "on each the cloak of one GUEST (a new one's on the last)": however light, however the others hang. */
    private static void aNewOneHangsLast() {
        RegretPegs x = Due.ball(30, 50, 30, 60, 30, 70);
        x.hang(0, 2);
        x.guest(30, 0);
        due.isTrue("2 behind all", Due.order(x).equals("2103"));
        due.is("2 its PEG", x.ofGuest(3, 5), 3);
        due.is("2 the last", x.count(5), 3);
    }

    /** "WRONG, if RUE of the one ahead is more than RUE of the other." */
    private static void wrongIsMoreNotAlike() {
        int[] more = {-1, 0, 1};
        int[] wrong = {0, 0, 1};
        for (int i = 0; i < 3; i++) {
            RegretPegs x = Due.ball(30, 500 + more[i], 30, 500);
            due.is("21 one ahead by " + more[i], x.wrongs(), wrong[i]);
            due.is("20 one ahead by " + more[i], x.inOrder(), wrong[i]);
            due.is("22 one ahead by " + more[i], x.swap(), wrong[i] == 1 ? 1 : -1);
            x.hours(1);
            due.is("13 one ahead by " + more[i], x.peg(0), wrong[i]);
        }
    }

    /** "GIRL: that, and the rest of m by 3." */
    private static void girlGrowsByTheRestOfThree() {
        int[] grows = {1, 2, 3, 1, 2, 3, 1, 2, 3, 1};
        for (int m = 0; m < 10; m++) {
            RegretPegs x = Due.ball(10 + m, 100);
            due.is("3 GROWS of a GIRL, m " + m, x.ofGuest(0, 6), grows[m]);
            due.is("13 a GIRL, m " + m, x.hours(1), 100 + grows[m]);
        }
    }

    /** "BEAUTY: as GIRL, 4 times that, if DANCED is 0." */
    private static void beautyGrowsFourTimesTillSheDanced() {
        int[] danced = {0, 1, 2, 999};
        int[] grows = {12, 3, 3, 3};
        for (int i = 0; i < 4; i++) {
            RegretPegs x = Due.ball(42, 100);
            x.change(0, 1, danced[i]);
            due.is("3 GROWS of a BEAUTY, DANCED " + danced[i], x.ofGuest(0, 6), grows[i]);
            due.is("13 a BEAUTY, DANCED " + danced[i], x.hours(1), 100 + grows[i]);
        }
        RegretPegs x = Due.ball(40, 100);
        due.is("3 GROWS of a BEAUTY with m 0", x.ofGuest(0, 6), 4);
    }

    /** "FIANCE: as FELLOW, and how many PEGS are behind one's own." */
    private static void fianceGrowsByPegsBehind() {
        RegretPegs x = Due.ball(59, 0);
        due.is("3 GROWS of a FIANCE alone", x.ofGuest(0, 6), 2);
        for (int behind = 1; behind < 7; behind++) {
            x.guest(30, 999);
            due.is("3 GROWS ahead of " + behind, x.ofGuest(0, 6), 2 + behind);
        }
        for (int peg = 1; peg < 7; peg++) {
            x.hang(peg - 1, peg);
            due.is("3 GROWS on PEG " + peg, x.ofGuest(0, 6), 8 - peg);
        }
    }

    /** "AUNT: as CHAPERONE, less m."; "below 0: less". */
    private static void auntGrowsLess() {
        for (int m : new int[] {0, 1, 9}) {
            RegretPegs x = Due.ball(60 + m, 100);
            due.is("3 GROWS of an AUNT, m " + m, x.ofGuest(0, 6), -m);
            due.is("13 an AUNT, m " + m, x.hours(1), 100 - m);
        }
        due.is("3 GROWS of a CHAPERONE, whose m doesn't matter", Due.ball(39, 0).ofGuest(0, 6), 0);
    }

    // ---- to DANCE, and promise 12

    /** "(RUES as they were ahead of it)": who is named first doesn't matter to either. */
    private static void danceTakesRuesAsTheyWere() {
        for (int first = 0; first < 2; first++) {
            RegretPegs x = Due.ball(1, 100, 2, 300);
            Due.text(x, 0, "o+m");
            due.is("12 RUE of the first", x.dance(first, 1 - first), first == 0 ? 301 : 102);
            due.is("12 RUE of 0", x.ofGuest(0, 2), 301);
            due.is("12 RUE of 1", x.ofGuest(1, 2), 102);
        }
        RegretPegs x = Due.ball(0, 0, 0, 999);
        due.is("12 the half is cut", x.dance(0, 1), 499);
        due.is("12 the half of the other, too", x.ofGuest(1, 2), 499);
    }

    /** "DANCED (0 to 999 ..)"; "DANCED of each is 1 more (held)". */
    private static void dancedIsHeld() {
        int[] was = {0, 1, 997, 998, 999};
        int[] is = {1, 2, 998, 999, 999};
        for (int i = 0; i < was.length; i++) {
            RegretPegs x = Due.ball(0, 0, 0, 0);
            x.change(0, 1, was[i]);
            x.dance(1, 0);
            due.is("12 DANCED behind " + was[i], x.ofGuest(0, 3), is[i]);
            due.is("12 DANCED of the other", x.ofGuest(1, 3), 1);
            x.change(0, 1, was[i]);
            x.change(1, 1, was[i]);
            x.hours(1);
            x.dance(1, 0);
            due.is("12 DANCED of both", x.count(3), 2 * is[i]);
        }
        RegretPegs x = Due.ball(0, 0, 0, 0);
        x.change(0, 1, 999);
        x.change(1, 1, 999);
        x.loose(40);
        due.is("14 DANCED is held, too", x.count(3), 1998);
    }

    /** "IDLE (.. 0: danced in this HOUR)"; "STATE: one isn't IDLE." */
    private static void danceMakesNotIdle() {
        RegretPegs x = Due.ball(0, 10, 0, 20, 0, 30, 0, 40);
        due.is("12 two", x.dance(0, 1), 15);
        due.is("12 who are IDLE then", x.count(4), 12);
        due.is("12 the same two", x.dance(0, 1), Due.STATE);
        due.is("12 the first isn't IDLE", x.dance(1, 2), Due.STATE);
        due.is("12 the other isn't IDLE", x.dance(2, 1), Due.STATE);
        due.is("12 two others", x.dance(3, 2), 35);
        due.is("12 nobody is IDLE", x.count(4), 0);
        x.change(0, 2, 1);
        due.is("12 one who is, one who isn't", x.dance(0, 3), Due.STATE);
        due.is("12 that changed nothing", x.ofGuest(0, 4), 1);
        x.hours(1);
        due.is("12 in the next HOUR they do", x.dance(0, 1), 15);
    }

    /** "BEYOND: also one and the same." */
    private static void danceOfWhoIsNot() {
        RegretPegs x = Due.ball(0, 10, 0, 20);
        int[][] beyond = {{0, 0}, {1, 1}, {-1, 0}, {0, -1}, {2, 0}, {0, 2}, {2, 2}, {-1, -1}, {LEAST, 0}, {0, MOST}};
        for (int[] b : beyond) {
            due.is("12 dance(" + b[0] + ", " + b[1] + ")", x.dance(b[0], b[1]), Due.BEYOND);
        }
        due.is("12 nobody danced", x.count(3), 0);
        x.change(0, 2, 0);
        due.is("12 BEYOND ahead of STATE: the same", x.dance(0, 0), Due.BEYOND);
        due.is("12 BEYOND ahead of STATE: none such", x.dance(0, 2), Due.BEYOND);
        due.is("12 nobody at all", new RegretPegs().dance(0, 1), Due.BEYOND);
    }

    // ---- an HOUR, and promise 13

    /** "RUE of each who is IDLE is more by GROWS (held)." */
    private static void hourHoldsRue() {
        int[][] kmRueThen = {
            {0, 0, 1}, {0, 997, 998}, {0, 998, 999}, {0, 999, 999}, {20, 997, 999}, {20, 998, 999}, {48, 988, 999},
            {48, 987, 999}, {48, 986, 998}, {69, 10, 1}, {69, 9, 0}, {69, 8, 0}, {69, 0, 0}, {61, 1, 0}, {61, 0, 0},
            {60, 0, 0}, {30, 0, 0}, {30, 999, 999},
        };
        for (int[] k : kmRueThen) {
            RegretPegs x = Due.ball(k[0], k[1]);
            due.is("15 " + k[0] + " with RUE " + k[1], x.then(1, 0, 0), k[2]);
            due.is("13 " + k[0] + " with RUE " + k[1], x.hours(1), k[2]);
        }
    }

    /** "RUE of each who is IDLE": who isn't rues it neither more nor less, and all do in the next HOUR. */
    private static void hourGrowsTheIdleAlone() {
        for (int kind = 0; kind < 7; kind++) {
            RegretPegs x = Due.ball(10 * kind + 1, 500);
            int grows = x.ofGuest(0, 6);
            x.change(0, 2, 0);
            due.is("13 not IDLE, KIND " + kind, x.hours(1), 500);
            due.is("13 IDLE then, KIND " + kind, x.hours(1), 500 + grows);
        }
    }

    /** "all at once, by THE ORDER as it is": a FIANCE grows by the PEG that he has ahead of the shifts. */
    private static void hourGrowsByTheOrderAsItIs() {
        RegretPegs x = Due.ball(50, 100, 50, 0, 30, 50);
        due.is("13 as they hang", x.hours(1), 104 + 3 + 50);
        due.isTrue("13 then they shift", Due.order(x).equals("120"));
        due.is("13 as they hang then", x.hours(1), 106 + 7 + 50);
    }

    /** "from PEG 0 on, once: .. (then the next PEG, as it is then)": one goes all the way back, others one PEG ahead. */
    private static void hourShiftsOnceFromPegZero() {
        RegretPegs x = Due.ball(30, 70, 30, 60, 30, 50, 30, 40, 30, 30, 30, 20, 30, 10);
        String[] orders = {"1234560", "2345610", "3456210", "4563210", "5643210", "6543210", "6543210"};
        for (int hour = 0; hour < 7; hour++) {
            x.hours(1);
            due.isTrue("13 HOUR " + hour, Due.order(x).equals(orders[hour]));
        }
        RegretPegs y = Due.ball(30, 10, 30, 20, 30, 5);
        y.hours(1);
        due.isTrue("13 the first two aren't asked again", Due.order(y).equals("021"));
        y.hours(1);
        due.isTrue("13 in the next HOUR they are", Due.order(y).equals("201"));
        RegretPegs last = Due.ball(30, 10, 30, 20, 30, 30, 30, 40, 30, 50, 30, 70, 30, 60);
        last.hours(1);
        due.isTrue("13 the last two", Due.order(last).equals("0123465"));
    }

    /** "the other TEXT gives other than 0 for how much RUE differs, m of the one ahead, which PEG". */
    private static void hourShiftsByTheOtherText() {
        shifts("d=1", "10", 30, 501, 30, 500);
        shifts("d=999", "10", 30, 999, 30, 0);
        shifts("d=998", "01", 30, 999, 30, 0);
        shifts("m=9", "10", 39, 5, 30, 0);
        shifts("m=9", "01", 30, 5, 39, 0);
        shifts("p=0", "102", 30, 3, 30, 2, 30, 1);
        shifts("p=1", "021", 30, 3, 30, 2, 30, 1);
        shifts("p=2", "012", 30, 3, 30, 2, 30, 1);
        shifts("0", "01", 30, 3, 30, 2);
        shifts("2", "10", 30, 3, 30, 2);
        shifts("0-1", "01", 30, 3, 30, 2);
        shifts("1", "01", 30, 2, 30, 2);
        shifts("1", "01", 30, 2, 30, 3);
    }

    private static void shifts(String text, String order, int... kmAndRue) {
        RegretPegs x = Due.ball(kmAndRue);
        due.is("10 text " + text, Due.text(x, 1, text), 1);
        x.hours(1);
        due.isTrue("13 " + text + ": " + Due.order(x), Due.order(x).equals(order));
    }

    /** "(3) all are IDLE. HOUR is 1 more." */
    private static void hourMakesAllIdle() {
        RegretPegs x = Due.ball(0, 0, 0, 0, 0, 0, 0, 0, 0, 0, 0, 0, 0, 0);
        for (int i = 0; i < 7; i++) {
            x.change(i, 2, 0);
        }
        due.is("39 nobody is IDLE", x.count(4), 0);
        x.hours(1);
        due.is("13 all are IDLE", x.count(4), 127);
        due.is("13 HOUR", x.count(1), 1);
        due.is("13 nobody", new RegretPegs().hours(60), 0);
    }

    /** "n (1 to 60) HOURS: RUE of all together. BEYOND." */
    private static void hoursOneToSixty() {
        RegretPegs x = Due.ball(0, 0);
        for (int n : new int[] {0, 61, -1, LEAST, MOST}) {
            due.is("13 hours(" + n + ")", x.hours(n), Due.BEYOND);
        }
        due.is("13 no HOUR went", x.count(1), 0);
        due.is("13 one", x.hours(1), 1);
        due.is("13 sixty", x.hours(60), 61);
        due.is("13 HOUR", x.count(1), 61);
    }

    /** "HOUR (0 to 9999 ..)"; "STATE: HOUR would be above 9999." */
    private static void hourUpToLast() {
        RegretPegs x = Due.late(9940, 0, 5);
        due.is("13 HOUR", x.count(1), 9940);
        due.is("13 to 10000", x.hours(60), Due.STATE);
        due.is("13 it stays", x.count(1), 9940);
        due.is("13 to 9999", x.hours(59), 999);
        due.is("13 HOUR is the last", x.count(1), 9999);
        due.is("13 one more", x.hours(1), Due.STATE);
        due.is("13 BEYOND ahead of STATE, 0", x.hours(0), Due.BEYOND);
        due.is("13 BEYOND ahead of STATE, 61", x.hours(61), Due.BEYOND);
        due.is("13 it is still the last", x.count(1), 9999);
        RegretPegs y = Due.late(9998, 0, 5);
        due.is("13 two", y.hours(2), Due.STATE);
        due.is("13 one", y.hours(1), 999);
    }

    // ---- promise 14

    /** "n (1 to 40) BALLS by draws .. BEYOND." */
    private static void looseOneToForty() {
        RegretPegs x = Due.ball(0, 0);
        for (int n : new int[] {0, 41, -1, LEAST, MOST}) {
            due.is("14 loose(" + n + ")", x.loose(n), Due.BEYOND);
        }
        due.is("14 no HOUR went", x.count(1), 0);
        due.is("14 one", x.loose(1), 1);
        due.is("14 forty", x.loose(40), 41);
        due.is("14 HOUR", x.count(1), 41);
    }

    /** "STATE: HOUR would be above 9999." */
    private static void looseUpToLastHour() {
        RegretPegs x = Due.late(9960, 0, 5, 0, 5);
        x.seed(3);
        due.is("14 to 10000", x.loose(40), Due.STATE);
        due.is("14 HOUR stays", x.count(1), 9960);
        due.is("14 z stays", x.count(9), 3);
        due.isTrue("14 to 9999", !Due.isError(x.loose(39)));
        due.is("14 HOUR is the last", x.count(1), 9999);
        int z = x.count(9);
        due.is("14 one more", x.loose(1), Due.STATE);
        due.is("14 BEYOND ahead of STATE, 0", x.loose(0), Due.BEYOND);
        due.is("14 BEYOND ahead of STATE, 41", x.loose(41), Due.BEYOND);
        due.is("14 no draw", x.count(9), z);
    }

    /** "if there are two GUESTS or more, two draws .. then an HOUR." */
    private static void looseOfNoneOneTwo() {
        for (int guests = 0; guests <= 3; guests++) {
            RegretPegs x = new RegretPegs();
            for (int i = 0; i < guests; i++) {
                x.guest(30, 8);
            }
            due.is("14 " + guests + " GUESTS", x.loose(1), 8 * guests);
            due.is("14 z of " + guests, x.count(9), guests < 2 ? 1 : next(next(1)));
            due.is("14 HOUR of " + guests, x.count(1), 1);
        }
    }

    private static int next(int z) {
        return z * 1103515245 + 12345;
    }

    /** The least z from 0 on of which two draws give two GUESTS of so many, who are the same one or are not. */
    private static int seedOf(int size, boolean same, boolean below) {
        for (int v = 0; v < 100000; v++) {
            int one = next(v);
            int other = next(one);
            if (((one >>> 8) % size == (other >>> 8) % size) == same && (one < 0 && other < 0) == below) {
                return v;
            }
        }
        throw new IllegalStateException();
    }

    /** "those whose numbers are their rests by how many there are DANCE, if they are two". */
    private static void looseDrawsTheSameOneTwice() {
        for (int size = 2; size <= 7; size++) {
            for (int same = 0; same < 2; same++) {
                RegretPegs x = new RegretPegs();
                for (int i = 0; i < size; i++) {
                    x.guest(30, 100 * i);
                }
                x.seed(seedOf(size, same == 1, false));
                x.loose(1);
                due.is("14 of " + size + (same == 1 ? ", the same twice" : ", two"), x.count(3), same == 1 ? 0 : 2);
            }
        }
    }

    /** "(an int), and gives z >>> 8": no draw is below 0, though z is. */
    private static void looseDrawsBelowZero() {
        for (int size = 2; size <= 7; size++) {
            RegretPegs x = new RegretPegs();
            for (int i = 0; i < size; i++) {
                x.guest(30, 100 * i);
            }
            int z = seedOf(size, false, true);
            x.seed(z);
            x.loose(1);
            int one = (next(z) >>> 8) % size;
            int other = (next(next(z)) >>> 8) % size;
            due.is("14 z below 0", x.count(9), next(next(z)));
            for (int i = 0; i < size; i++) {
                due.is("14 DANCED of " + i, x.ofGuest(i, 3), i == one || i == other ? 1 : 0);
                due.is("14 RUE of " + i, x.ofGuest(i, 2), i == one || i == other ? 50 * (one + other) : 100 * i);
            }
        }
    }

    /** "(two who aren't IDLE DANCE, too)". */
    private static void looseOfWhoAreNotIdle() {
        RegretPegs x = Due.ball(30, 100, 30, 300);
        x.change(0, 2, 0);
        x.change(1, 2, 0);
        x.seed(seedOf(2, false, false));
        due.is("14 together", x.loose(1), 400);
        due.is("14 they danced", x.ofGuest(0, 2), 200);
        due.is("14 they are IDLE", x.count(4), 3);
    }

    // ---- promises 3 to 8

    /** "Of a GUEST: 0 KIND .. 6 GROWS now. BEYOND." */
    private static void ofGuestBounds() {
        RegretPegs x = Due.ball(12, 3, 64, 5);
        int[][] beyond = {{-1, 0}, {2, 0}, {0, -1}, {0, 7}, {LEAST, 0}, {MOST, 0}, {0, LEAST}, {0, MOST}, {-1, 7}};
        for (int[] b : beyond) {
            due.is("3 ofGuest(" + b[0] + ", " + b[1] + ")", x.ofGuest(b[0], b[1]), Due.BEYOND);
        }
        int[][] of = {{1, 2, 3, 0, 1, 0, 3}, {6, 4, 5, 0, 1, 1, -4}};
        for (int guest = 0; guest < 2; guest++) {
            for (int what = 0; what < 7; what++) {
                due.is("3 of " + guest + ", " + what, x.ofGuest(guest, what), of[guest][what]);
            }
        }
        due.is("3 nobody", new RegretPegs().ofGuest(0, 0), Due.BEYOND);
    }

    /** "RUE (what 0), DANCED (1), IDLE (2: 0, 1) of a GUEST becomes v: what it was. BEYOND." */
    private static void changeBounds() {
        int[] most = {999, 999, 1};
        for (int what = 0; what < 3; what++) {
            RegretPegs x = Due.ball(0, 500, 0, 400);
            int was = x.ofGuest(1, 2 + what);
            for (int v : new int[] {-1, most[what] + 1, LEAST, MOST}) {
                due.is("4 change(1, " + what + ", " + v + ")", x.change(1, what, v), Due.BEYOND);
                due.is("4 it stays", x.ofGuest(1, 2 + what), was);
            }
            due.is("4 the most", x.change(1, what, most[what]), was);
            due.is("4 the most is", x.ofGuest(1, 2 + what), most[what]);
            due.is("4 the least", x.change(1, what, 0), most[what]);
            due.is("4 the least is", x.ofGuest(1, 2 + what), 0);
            due.is("4 once more", x.change(1, what, 0), 0);
            due.is("4 of the other", x.ofGuest(0, 2), 500);
        }
        RegretPegs x = Due.ball(0, 500, 0, 400);
        int[][] beyond = {{-1, 0}, {2, 0}, {0, -1}, {0, 3}, {LEAST, 0}, {MOST, 0}, {0, LEAST}, {0, MOST}};
        for (int[] b : beyond) {
            due.is("4 change(" + b[0] + ", " + b[1] + ", 0)", x.change(b[0], b[1], 0), Due.BEYOND);
        }
        due.is("4 nobody", new RegretPegs().change(0, 0, 0), Due.BEYOND);
    }

    /** "Whose cloak is on a PEG. BEYOND." */
    private static void pegBounds() {
        RegretPegs x = new RegretPegs();
        for (int size = 0; size <= 7; size++) {
            due.is("5 PEG " + size + " of " + size, x.peg(size), Due.BEYOND);
            due.is("5 PEG -1", x.peg(-1), Due.BEYOND);
            x.guest(0, 0);
            due.is("5 PEG 0", x.peg(0), 0);
            due.is("5 the last PEG", x.peg(Math.min(size, 6)), Math.min(size, 6));
        }
        due.is("5 far below", x.peg(LEAST), Due.BEYOND);
        due.is("5 far above", x.peg(MOST), Due.BEYOND);
    }

    /** "The cloaks on two PEGS change places: whose is on the first then. BEYOND." */
    private static void hangBounds() {
        RegretPegs x = Due.ball(0, 0, 0, 0, 0, 0, 0, 0, 0, 0, 0, 0, 0, 0);
        int[][] beyond = {{-1, 0}, {0, -1}, {7, 0}, {0, 7}, {-1, 7}, {LEAST, 0}, {0, LEAST}, {MOST, 0}, {0, MOST}};
        for (int[] b : beyond) {
            due.is("6 hang(" + b[0] + ", " + b[1] + ")", x.hang(b[0], b[1]), Due.BEYOND);
        }
        due.isTrue("6 all hang as they did", Due.order(x).equals("0123456"));
        due.is("6 the first and the last", x.hang(0, 6), 6);
        due.isTrue("6 they changed", Due.order(x).equals("6123450"));
        due.is("6 the last and the first", x.hang(6, 0), 6);
        due.isTrue("6 they changed back", Due.order(x).equals("0123456"));
        due.is("6 the last with itself", x.hang(6, 6), 6);
        due.isTrue("6 nothing changed", Due.order(x).equals("0123456"));
        due.is("6 nobody", new RegretPegs().hang(0, 0), Due.BEYOND);
    }

    /** "A GUEST becomes one of a KIND, with m (km): the KIND that it was. BEYOND." */
    private static void becomeBounds() {
        RegretPegs x = Due.ball(37, 9, 0, 0);
        for (int km : new int[] {-1, 70, LEAST, MOST}) {
            due.is("7 become(0, " + km + ")", x.become(0, km), Due.BEYOND);
        }
        for (int guest : new int[] {-1, 2, LEAST, MOST}) {
            due.is("7 become(" + guest + ", 0)", x.become(guest, 0), Due.BEYOND);
        }
        due.is("7 KIND stays", x.ofGuest(0, 0), 3);
        due.is("7 m stays", x.ofGuest(0, 1), 7);
        int[] kms = {69, 0, 9, 10, 59, 60, 37};
        int was = 3;
        for (int km : kms) {
            due.is("7 become(0, " + km + ")", x.become(0, km), was);
            due.is("7 KIND", x.ofGuest(0, 0), km / 10);
            due.is("7 m", x.ofGuest(0, 1), km % 10);
            was = km / 10;
        }
        due.is("7 RUE stays", x.ofGuest(0, 2), 9);
        due.is("7 the other stays", x.ofGuest(1, 0), 0);
    }

    /** "A GUEST as one of a KIND: m. BEYOND. KIND: it isn't of that KIND, nor of one under it." */
    private static void asBounds() {
        RegretPegs x = Due.ball(9, 0, 18, 0, 27, 0, 36, 0, 45, 0, 54, 0, 63, 0);
        int[][] is = {{0, 0}, {1, 0}, {1, 1}, {2, 0}, {2, 2}, {3, 0}, {3, 3}, {4, 0}, {4, 1}, {4, 4}, {5, 0}, {5, 2},
            {5, 5}, {6, 0}, {6, 3}, {6, 6}};
        boolean[][] may = new boolean[7][7];
        for (int[] pair : is) {
            may[pair[0]][pair[1]] = true;
        }
        for (int guest = 0; guest < 7; guest++) {
            for (int kind = 0; kind < 7; kind++) {
                due.is("8 as(" + guest + ", " + kind + ")", x.as(guest, kind), may[guest][kind] ? 9 - guest : Due.KIND);
            }
        }
        int[][] beyond = {{-1, 0}, {7, 0}, {0, -1}, {0, 7}, {LEAST, 0}, {MOST, 0}, {0, LEAST}, {0, MOST}, {7, 1}};
        for (int[] b : beyond) {
            due.is("8 as(" + b[0] + ", " + b[1] + ")", x.as(b[0], b[1]), Due.BEYOND);
        }
    }
}
