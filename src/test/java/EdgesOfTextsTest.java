/**
 * The bounds that the document names under "Terms", 2, and in promises 9 to 11: each at its bound and one beside it. A
 * comment has the document's words.
 */
public final class EdgesOfTextsTest {
    private static final Due due = new Due();
    private static final int LEAST = Integer.MIN_VALUE;
    private static final int MOST = Integer.MAX_VALUE;

    public static void main(String[] args) {
        feedOneToEight();
        feedTakesTheLowestFirst();
        feedUpToFifty();
        feedFullTakesNone();
        textOfUse();
        textEmptiesTheTape();
        textOfNoBytes();
        textInPlaceOfOneAhead();
        textOfFiftyBytes();
        textOfFiftyParts();
        everyByteFirst();
        everyByteBehindANumber();
        everyByteBehindAName();
        everyByteBehindASign();
        everyByteInParentheses();
        numbersOfOneToFourDigits();
        onlyOneComparison();
        fiveOpen();
        closedOnesAreNotOpen();
        leftFirst();
        tighterFirst();
        quotientsAreCut();
        byZero();
        intsThatWrap();
        trueIsNotZero();
        heldWithinZeroTo999();
        heldWithinZeroTo1();
        withoutAText();
        lawOfUse();
        lawNamesInOrder();
        due.end();
    }

    private static RegretPegs with(int use, String text) {
        RegretPegs x = new RegretPegs();
        due.is("10 text " + text, Due.text(x, use, text), 1);
        return x;
    }

    private static void gives(String text, int r, int o, int m, int want) {
        due.is("11 " + text + " of " + r + ", " + o + ", " + m, with(0, text).law(0, r, o, m), want);
    }

    private static void fault(int use, String text, int at) {
        RegretPegs x = new RegretPegs();
        due.is("10 FAULT of " + text, Due.text(x, use, text), -10 - at);
        due.is("10 it is no ERROR", x.told(1) + x.told(2) + x.told(3) + x.told(4) + x.told(5), 0);
    }

    // ---- promise 9

    /** "The n lowest bytes (1 .. 8) of a word .. BEYOND." */
    private static void feedOneToEight() {
        RegretPegs x = new RegretPegs();
        for (int n : new int[] {0, 9, -1, LEAST, MOST}) {
            due.is("9 feed of " + n, x.feed(0x3131313131313131L, n), Due.BEYOND);
            due.is("9 none came", x.count(6), 0);
        }
        due.is("9 one", x.feed(0x31L, 1), 1);
        due.is("9 eight", x.feed(0x3131313131313131L, 8), 9);
    }

    /** "the lowest first"; bytes above n don't come, the highest of eight does, and one above 127 is a byte. */
    private static void feedTakesTheLowestFirst() {
        RegretPegs x = new RegretPegs();
        // From the lowest byte on: "06+7+8+9".
        due.is("9 eight", x.feed(0x392b382b372b3630L, 8), 8);
        due.is("10 read", x.text(0), 1);
        due.is("11 gives", x.law(0, 0, 0, 0), 6 + 7 + 8 + 9);
        due.is("9 three of eight", x.feed(0xffffffffff372b72L, 3), 3);
        due.is("10 read of three", x.text(0), 1);
        due.is("11 gives of three", x.law(0, 5, 0, 0), 12);
        due.is("9 one above 127 behind another", x.feed(0xf2L << 8 | 'r', 2), 2);
        due.is("10 it isn't r, less a bit", x.text(0), -11);
        due.is("9 the highest byte is one above 127", x.feed(0xff31313131313131L, 8), 8);
        due.is("10 a fifth digit comes first", x.text(0), -14);
    }

    /** "THE TAPE (bytes, at most 50)"; "how many there are .. FULL." */
    private static void feedUpToFifty() {
        for (int n = 1; n <= 8; n++) {
            RegretPegs x = new RegretPegs();
            int there = 0;
            while (there + n <= 50) {
                there += n;
                due.is("9 by " + n, x.feed(0, n), there);
            }
            due.is("9 full by " + n, x.feed(0, n), Due.FULL);
            due.is("9 they stay", x.count(6), there);
            if (there < 50) {
                due.is("9 as many as there is room for", x.feed(0, 50 - there), 50);
            }
            due.is("9 one more", x.feed(0, 1), Due.FULL);
            due.is("9 BEYOND ahead of FULL, 0", x.feed(0, 0), Due.BEYOND);
            due.is("9 BEYOND ahead of FULL, 9", x.feed(0, 9), Due.BEYOND);
            due.is("9 fifty", x.count(6), 50);
            x.text(0);
            due.is("9 behind text() there is room", x.feed(0, n), n);
        }
    }

    /** FULL "changes nothing": no byte of those comes, though some would find room. */
    private static void feedFullTakesNone() {
        RegretPegs x = new RegretPegs();
        Due.feed(x, "1+".repeat(24) + "1");
        due.is("9 no room for two", x.feed(0x2b2bL, 2), Due.FULL);
        due.is("9 there are as many", x.count(6), 49);
        due.is("10 the TEXT is as it was", x.text(0), 1);
        due.is("11 it gives", x.law(0, 0, 0, 0), 25);
    }

    // ---- promise 10

    /** "the TEXT of a USE (0, 1) .. BEYOND (THE TAPE stays)." */
    private static void textOfUse() {
        for (int use : new int[] {-1, 2, LEAST, MOST}) {
            RegretPegs x = new RegretPegs();
            Due.feed(x, "m+7");
            due.is("10 text(" + use + ")", x.text(use), Due.BEYOND);
            due.is("10 THE TAPE stays", x.count(6), 3);
            due.is("10 and is read", x.text(1), 1);
        }
        RegretPegs x = with(0, "7");
        due.is("11 of the one USE", x.law(0, 0, 0, 0), 7);
        due.is("11 not of the other", x.law(1, 0, 0, 0), 1);
        RegretPegs y = with(1, "0");
        due.is("11 of the other USE", y.law(1, 0, 0, 0), 0);
        due.is("11 not of the one", y.law(0, 8, 0, 0), 4);
    }

    /** "THE TAPE, which is empty then": by a TEXT, and by a FAULT, too. */
    private static void textEmptiesTheTape() {
        RegretPegs x = new RegretPegs();
        due.is("10 read", Due.text(x, 0, "r"), 1);
        due.is("10 empty", x.count(6), 0);
        due.is("10 a FAULT", Due.text(x, 0, "r)"), -11);
        due.is("10 empty, too", x.count(6), 0);
        due.is("10 nothing is left of it", Due.text(x, 0, "o"), 1);
        due.is("11 it gives", x.law(0, 1, 2, 3), 2);
    }

    /** "FAULT: .. how many there are, if it ends too early": none. */
    private static void textOfNoBytes() {
        fault(0, "", 0);
        fault(1, "", 0);
    }

    /** "in place of one ahead"; "(no ERROR; the one ahead stays)". */
    private static void textInPlaceOfOneAhead() {
        RegretPegs x = with(0, "r+1");
        due.is("10 a FAULT", Due.text(x, 0, "o+2+"), -14);
        due.is("11 the one ahead stays", x.law(0, 10, 20, 0), 11);
        due.is("10 none", x.text(0), -10);
        due.is("11 the one ahead stays still", x.law(0, 10, 20, 0), 11);
        due.is("10 a shorter one", Due.text(x, 0, "o"), 1);
        due.is("11 is in its place", x.law(0, 10, 20, 0), 20);
        due.is("10 a longer one", Due.text(x, 0, "o+r*2-m"), 1);
        due.is("11 is in its place", x.law(0, 10, 20, 3), 37);
        RegretPegs y = new RegretPegs();
        due.is("10 a FAULT with none ahead", Due.text(y, 0, "9+"), -12);
        due.is("11 there is none still", y.law(0, 4, 8, 0), 6);
    }

    /** "(bytes, at most 50)": the last of fifty counts. */
    private static void textOfFiftyBytes() {
        String ahead = "1+".repeat(24);
        gives(ahead + "10", 0, 0, 0, 34);
        gives(ahead + "1", 0, 0, 0, 25);
        fault(0, ahead + "1)", 49);
        fault(0, ahead + "1+", 50);
        fault(0, ahead + "+1", 48);
        fault(0, ahead, 48);
        gives("(".repeat(5) + "1+".repeat(19) + "9" + ")".repeat(5), 0, 0, 0, 28);
    }

    /** Fifty bytes, each of which is a NUMBER, a NAME or a sign. */
    private static void textOfFiftyParts() {
        gives("!r" + "+1".repeat(24), 0, 0, 0, 25);
        gives("!r" + "+1".repeat(24), 1, 0, 0, 24);
        gives("!!!!!r" + "-o".repeat(22), 0, -1, 0, 23);
    }

    /** "Q: a NUMBER of 1 to 4 digits, a NAME, ! Q, ( T )"; "No blanks". */
    private static void everyByteFirst() {
        String[] names = {"rom", "dmp"};
        for (int use = 0; use < 2; use++) {
            for (int b = 0; b < 256; b++) {
                boolean value = b >= '0' && b <= '9' || names[use].indexOf(b) >= 0;
                boolean opens = b == '!' || b == '(';
                RegretPegs x = new RegretPegs();
                x.feed(b, 1);
                due.is("10 byte " + b + " alone", x.text(use), value ? 1 : opens ? -11 : -10);
                x.feed(b | (long) '7' << 8, 2);
                boolean goesOn = b >= '0' && b <= '9' || b == '!';
                due.is("10 byte " + b + " ahead of 7", x.text(use), goesOn ? 1 : value ? -11 : opens ? -12 : -10);
            }
        }
    }

    /** Behind a NUMBER: a digit, or one of | & < = > + - * / %. */
    private static void everyByteBehindANumber() {
        for (int b = 0; b < 256; b++) {
            boolean digit = b >= '0' && b <= '9';
            boolean sign = b > 0 && "|&<=>+-*/%".indexOf(b) >= 0;
            RegretPegs x = new RegretPegs();
            x.feed('7' | (long) b << 8, 2);
            due.is("10 byte " + b + " behind 7", x.text(0), digit ? 1 : sign ? -12 : -11);
            x.feed('7' | (long) b << 8 | (long) 'r' << 16, 3);
            due.is("10 byte " + b + " between 7 and r", x.text(0), sign ? 1 : digit ? -12 : -11);
        }
    }

    /** Behind a NAME: no digit. */
    private static void everyByteBehindAName() {
        for (int b = 0; b < 256; b++) {
            boolean sign = b > 0 && "|&<=>+-*/%".indexOf(b) >= 0;
            RegretPegs x = new RegretPegs();
            x.feed('m' | (long) b << 8, 2);
            due.is("10 byte " + b + " behind m", x.text(1), sign ? -12 : -11);
        }
    }

    /** Behind a sign: what a Q begins with. */
    private static void everyByteBehindASign() {
        for (char sign : "|&<=>+-*/%".toCharArray()) {
            for (int b = 0; b < 256; b++) {
                boolean value = b >= '0' && b <= '9' || b == 'r' || b == 'o' || b == 'm';
                boolean opens = b == '!' || b == '(';
                RegretPegs x = new RegretPegs();
                x.feed('r' | (long) sign << 8 | (long) b << 16, 3);
                due.is("10 byte " + b + " behind r" + sign, x.text(0), value ? 1 : opens ? -13 : -12);
            }
        }
    }

    /** "( T )": closed where a T may end, and once. */
    private static void everyByteInParentheses() {
        for (int b = 0; b < 256; b++) {
            boolean sign = b > 0 && "|&<=>+-*/%".indexOf(b) >= 0;
            RegretPegs x = new RegretPegs();
            x.feed('(' | (long) 'r' << 8 | (long) b << 16, 3);
            due.is("10 byte " + b + " behind (r", x.text(0), b == ')' ? 1 : sign ? -13 : -12);
        }
        fault(0, "(r", 2);
        fault(0, "(r))", 3);
        fault(0, "()", 1);
        fault(0, "(r+)", 3);
        fault(0, "!)", 1);
        fault(0, "((r)", 4);
        fault(0, "(r)(", 3);
        fault(0, "(r)r", 3);
        fault(0, "(r)1", 3);
        fault(0, "r(o)", 1);
        gives("((r))", 5, 0, 0, 5);
    }

    /** "a NUMBER of 1 to 4 digits". */
    private static void numbersOfOneToFourDigits() {
        gives("0", 7, 7, 7, 0);
        gives("9", 7, 7, 7, 9);
        gives("0000", 7, 7, 7, 0);
        gives("0999", 7, 7, 7, 999);
        gives("9999-9000", 7, 7, 7, 999);
        gives("9999-9001", 7, 7, 7, 998);
        gives("1000-r", 1, 7, 7, 999);
        gives("1234%1000", 7, 7, 7, 234);
        fault(0, "00000", 4);
        fault(0, "12345", 4);
        fault(0, "r+12345", 6);
        fault(0, "1234+12345", 9);
        fault(0, "(12345", 5);
        fault(1, "99999", 4);
    }

    /** "B: S, or S < S, S = S, S > S": one of them at most, as long as no & | ( stands between. */
    private static void onlyOneComparison() {
        String signs = "<=>";
        for (char one : signs.toCharArray()) {
            for (char other : signs.toCharArray()) {
                fault(0, "r" + one + "o" + other + "m", 3);
                fault(0, "r" + one + other + "m", 2);
                fault(0, "1&r" + one + "o+1" + other + "m", 7);
                fault(0, "(r" + one + "o" + other + "m)", 4);
                with(0, "r" + one + "o&r" + other + "m");
                with(0, "r" + one + "o|r" + other + "m");
                with(0, "(r" + one + "o)" + other + "m");
                with(0, "r" + one + "(o" + other + "m)");
                fault(0, "r" + one + "(o" + other + "m)=1", 7);
            }
        }
    }

    /** "At most 5 of ! and ( are open at once." */
    private static void fiveOpen() {
        for (int bits = 0; bits < 64; bits++) {
            StringBuilder six = new StringBuilder();
            for (int i = 0; i < 6; i++) {
                six.append((bits >> i & 1) == 0 ? '!' : '(');
            }
            String five = six.substring(0, 5);
            String closing = ")".repeat((int) five.chars().filter(c -> c == '(').count());
            with(0, five + "r" + closing);
            fault(0, five + "r" + closing + ")", 6 + closing.length());
            fault(0, six + "r", 5);
            fault(0, "r+" + six + "r", 7);
            fault(0, five, 5);
        }
    }

    /** A ! is open till its Q ends, a ( till its ). */
    private static void closedOnesAreNotOpen() {
        gives("!!!!!r+!!!!!r", 0, 0, 0, 2);
        gives("(((((r)))))+(((((r)))))", 4, 0, 0, 8);
        gives("!(r)+!(r)+!(r)+!(r)+!(r)+!(r)", 0, 0, 0, 6);
        gives("((((!r+!r+!r))))", 0, 0, 0, 3);
        gives("!!!(r+(r)*0)", 0, 0, 0, 1);
        fault(0, "!!!!(r+!r)", 7);
        fault(0, "!!!!(r+(r))", 7);
        gives("!!!!(r)+!!!!(r)", 1, 0, 0, 2);
        fault(0, "(((((r+!r)))))", 7);
        fault(0, "((((r))))+((((((r", 15);
    }

    /** "{ + P, - P }", "{ * Q, / Q, % Q }": from the left. */
    private static void leftFirst() {
        gives("r-o-m", 100, 30, 20, 50);
        gives("r-o+m", 100, 30, 20, 90);
        gives("r/o/m", 100, 5, 2, 10);
        gives("r/o*m", 100, 30, 20, 60);
        gives("r*o/m", 7, 5, 2, 17);
        gives("r%o*m", 17, 5, 3, 6);
        gives("r*o%m", 17, 5, 3, 1);
        gives("r%o%m", 100, 30, 4, 2);
    }

    /** T | A & B < S + P * Q !: the later the tighter. */
    private static void tighterFirst() {
        gives("1|0&0", 0, 0, 0, 1);
        gives("0&0|1", 0, 0, 0, 1);
        gives("2&1<2", 0, 0, 0, 1);
        gives("2&3=2", 0, 0, 0, 0);
        gives("1+1<2+1", 0, 0, 0, 1);
        gives("2+3*4", 0, 0, 0, 14);
        gives("2*3+4", 0, 0, 0, 10);
        gives("20-6/4", 0, 0, 0, 19);
        gives("20-6%4", 0, 0, 0, 18);
        gives("!0*5", 0, 0, 0, 5);
        gives("!5+5", 0, 0, 0, 5);
        gives("!0=1", 0, 0, 0, 1);
        gives("!1&0", 0, 0, 0, 0);
        gives("5*!0", 0, 0, 0, 5);
    }

    /** "Quotients are cut (toward 0)"; "/ cut, % the rest that it leaves". */
    private static void quotientsAreCut() {
        gives("100+r/o", 7, 2, 0, 103);
        gives("100+r/o", -7, 2, 0, 97);
        gives("100+r/o", 7, -2, 0, 97);
        gives("100+r/o", -7, -2, 0, 103);
        gives("100+r/o", -1, 2, 0, 100);
        gives("100+r%o", 7, 2, 0, 101);
        gives("100+r%o", -7, 2, 0, 99);
        gives("100+r%o", 7, -2, 0, 101);
        gives("100+r%o", -7, -2, 0, 99);
        gives("100+r%o", -8, 2, 0, 100);
    }

    /** "both by 0 are 0". */
    private static void byZero() {
        for (int r : new int[] {0, 1, -1, LEAST, MOST}) {
            gives("100+r/o", r, 0, 0, 100);
            gives("100+r%o", r, 0, 0, 100);
            gives("100+r/(o-o)", r, 5, 0, 100);
        }
        gives("100+r/o", 5, 1, 0, 105);
        gives("100+r%o", 5, 1, 0, 100);
        gives("100+r/o", 5, -1, 0, 95);
        gives("r/o/m+7", 5, 5, 0, 7);
        gives("1&(5/0)", 0, 0, 0, 0);
    }

    /** "Ints that wrap". */
    private static void intsThatWrap() {
        gives("r+1=o", MOST, LEAST, 0, 1);
        gives("r-1=o", LEAST, MOST, 0, 1);
        gives("r*2=o", MOST, -2, 0, 1);
        gives("r*r", 65536, 0, 0, 0);
        gives("r*r=o", 65535, -131071, 0, 1);
        gives("0-r=r", LEAST, 0, 0, 1);
        gives("r/o=r", LEAST, -1, 0, 1);
        gives("r%o", LEAST, -1, 0, 0);
        gives("r-o<0", MOST, -1, 0, 1);
        gives("r<o", LEAST, MOST, 0, 1);
        gives("r>o", LEAST, MOST, 0, 0);
        gives("r=o", LEAST, LEAST, 0, 1);
        gives("9999*9999*9999=r", 9999 * 9999 * 9999, 0, 0, 1);
    }

    /** "| & < = > ! are 1 or 0, what is not 0 being true". */
    private static void trueIsNotZero() {
        int[] values = {0, 1, 2, 4, -1, LEAST, MOST};
        for (int r : values) {
            gives("!r", r, 0, 0, r == 0 ? 1 : 0);
            gives("!!r", r, 0, 0, r == 0 ? 0 : 1);
            for (int o : values) {
                gives("r|o", r, o, 0, r == 0 && o == 0 ? 0 : 1);
                gives("r&o", r, o, 0, r == 0 || o == 0 ? 0 : 1);
                gives("5*(r<o)", r, o, 0, r < o ? 5 : 0);
                gives("5*(r=o)", r, o, 0, r == o ? 5 : 0);
                gives("5*(r>o)", r, o, 0, r > o ? 5 : 0);
            }
        }
        gives("2|4|8", 0, 0, 0, 1);
        gives("2&4&8", 0, 0, 0, 1);
        gives("2&4&0", 0, 0, 0, 0);
        gives("0&1|2", 0, 0, 0, 1);
    }

    // ---- the USES, and promise 11

    /** "0 DANCING .. held within 0 to 999". */
    private static void heldWithinZeroTo999() {
        int[][] isGives = {{-1, 0}, {0, 0}, {1, 1}, {998, 998}, {999, 999}, {1000, 999}, {LEAST, 0}, {MOST, 999}};
        for (int[] i : isGives) {
            gives("r", i[0], 0, 0, i[1]);
        }
        RegretPegs x = Due.ball(0, 0, 9, 999);
        Due.text(x, 0, "r+(r>0)*2-(r=0)*2");
        due.is("12 below 0", x.dance(0, 1), 0);
        due.is("12 above 999", x.ofGuest(1, 2), 999);
    }

    /** "1 SHIFTS .. held within 0 to 1". */
    private static void heldWithinZeroTo1() {
        int[][] isGives = {{-1, 0}, {0, 0}, {1, 1}, {2, 1}, {LEAST, 0}, {MOST, 1}};
        for (int[] i : isGives) {
            due.is("11 d " + i[0], with(1, "d").law(1, i[0], 0, 0), i[1]);
        }
    }

    /** "without a TEXT (r+o)/2"; "without a TEXT 1". */
    private static void withoutAText() {
        RegretPegs x = new RegretPegs();
        int[][] rog = {{0, 0, 0}, {0, 1, 0}, {1, 1, 1}, {999, 998, 998}, {999, 999, 999}, {999, 1000, 999}, {2000, 0, 999},
            {-1, 0, 0}, {-1, -1, 0}, {MOST, 1, 0}, {MOST, MOST, 0}, {LEAST, LEAST, 0}, {LEAST, -1, 999}};
        for (int[] r : rog) {
            due.is("11 without, " + r[0] + ", " + r[1], x.law(0, r[0], r[1], 5), r[2]);
        }
        for (int v : new int[] {0, -1, LEAST, MOST}) {
            due.is("11 without, of SHIFTS", x.law(1, v, v, v), 1);
        }
    }

    /** "What a USE gives .. BEYOND." */
    private static void lawOfUse() {
        RegretPegs x = new RegretPegs();
        for (int use : new int[] {-1, 2, LEAST, MOST}) {
            due.is("11 law(" + use + ", ..)", x.law(use, 4, 4, 4), Due.BEYOND);
        }
        due.is("11 law(0, ..)", x.law(0, 4, 4, 4), 4);
        due.is("11 law(1, ..)", x.law(1, 4, 4, 4), 1);
    }

    /** "with its NAMES in order as a, b, c". */
    private static void lawNamesInOrder() {
        due.is("11 r", with(0, "r").law(0, 1, 2, 3), 1);
        due.is("11 o", with(0, "o").law(0, 1, 2, 3), 2);
        due.is("11 m", with(0, "m").law(0, 1, 2, 3), 3);
        due.is("11 d", with(1, "d=1").law(1, 1, 2, 3), 1);
        due.is("11 m of SHIFTS", with(1, "m=2").law(1, 1, 2, 3), 1);
        due.is("11 p", with(1, "p=3").law(1, 1, 2, 3), 1);
    }
}
