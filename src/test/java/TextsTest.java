import java.util.Random;

/** Promises 9 to 11. */
public final class TextsTest {
    private static final Due due = new Due();

    public static void main(String[] args) {
        feed();
        text();
        faults();
        opens();
        law();
        operators();
        wholeTape();
        randomTexts();
        randomFaults();
        due.end();
    }

    private static void feed() {
        RegretPegs x = new RegretPegs();
        due.is("9 n 0", x.feed(0, 0), Due.BEYOND);
        due.is("9 n 9", x.feed(0, 9), Due.BEYOND);
        due.is("9 n below", x.feed(0, -1), Due.BEYOND);
        due.is("9 one", x.feed(-1L, 1), 1);
        for (int i = 1; i <= 6; i++) {
            due.is("9 eight", x.feed(0x3131313131313131L, 8), 1 + 8 * i);
        }
        due.is("9 full", x.feed(0, 2), Due.FULL);
        due.is("9 beyond ahead of full", x.feed(0, 9), Due.BEYOND);
        due.is("9 stays", x.count(6), 49);
        due.is("9 the last", x.feed(0, 1), 50);
        due.is("9 full at 50", x.feed(0, 1), Due.FULL);
        RegretPegs y = new RegretPegs();
        // 'r', '+', '7' from the lowest byte; the bytes above n don't come.
        due.is("9 the lowest first", y.feed(0x7f37_2b72L, 3), 3);
        due.is("9 text", y.text(0), 1);
        due.is("9 gives", y.law(0, 5, 0, 0), 12);
    }

    private static void text() {
        RegretPegs x = new RegretPegs();
        Due.feed(x, "r");
        due.is("10 use above", x.text(2), Due.BEYOND);
        due.is("10 use below", x.text(-1), Due.BEYOND);
        due.is("10 the tape stays", x.count(6), 1);
        due.is("10 read", x.text(0), 1);
        due.is("10 the tape is empty", x.count(6), 0);
        due.is("10 an empty one", x.text(0), -10);
        due.is("10 a fault", Due.text(x, 0, "o+"), -12);
        due.is("10 the tape is empty after a fault", x.count(6), 0);
        due.is("10 the one ahead stays", x.law(0, 77, 5, 0), 77);
        due.is("10 in place", Due.text(x, 0, "o"), 1);
        due.is("10 the new one", x.law(0, 77, 5, 0), 5);
        due.is("10 the other use has none", x.law(1, 0, 0, 0), 1);
        due.is("10 no fault is an error", x.told(1), 2);
    }

    private static void faults() {
        Object[][] rows = {
            {0, "r", -1}, {0, "d", 0}, {0, "p", 0}, {1, "r", 0}, {1, "o", 0}, {1, "d+m*p", -1},
            {0, "r+o*m", -1}, {0, "12345", 4}, {0, "1234", -1}, {0, "0000+0", -1}, {0, "1r", 1},
            {0, "rr", 1}, {0, "r1", 1}, {0, "r ", 1}, {0, " r", 0}, {0, "r<o<m", 3},
            {0, "r<o&m<r|r=o", -1}, {0, "r=(o<m)", -1}, {0, "(r", 2}, {0, "r)", 1}, {0, "()", 1},
            {0, "((r)", 4}, {0, "-r", 0}, {0, "r--o", 2}, {0, "r!o", 1}, {0, "!", 1},
            {0, "!!r", -1}, {0, "r&", 2}, {0, "r|", 2}, {0, "r&&o", 2}, {0, "r<=o", 2},
            {0, "r+o>", 4}, {0, "(r+o)*", 6}, {0, "(r+o)m", 5}, {0, "R", 0}, {0, "r\0", 1},
            {0, "\u00ff", 0}, {0, "!(r|!o)&!m", -1}, {0, "3%", 2}, {0, "3%%", 2}, {0, "(r<o<m)", 4},
        };
        for (Object[] row : rows) {
            RegretPegs x = new RegretPegs();
            int fault = (Integer) row[2];
            due.is("10 FAULT of " + row[1], Due.text(x, (Integer) row[0], (String) row[1]),
                fault < 0 ? 1 : -10 - fault);
        }
    }

    private static void opens() {
        RegretPegs x = new RegretPegs();
        due.is("10 five (", Due.text(x, 0, "(((((r)))))"), 1);
        due.is("10 six (", Due.text(x, 0, "((((((r))))))"), -15);
        due.is("10 five !", Due.text(x, 0, "!!!!!r"), 1);
        due.is("10 five ! give", x.law(0, 3, 0, 0), 0);
        due.is("10 six !", Due.text(x, 0, "!!!!!!r"), -15);
        due.is("10 mixed", Due.text(x, 0, "!(!(!r))+((((r))))"), 1);
        due.is("10 mixed, six", Due.text(x, 0, "!(!(!(r)))"), -15);
        due.is("10 closed ! don't count", Due.text(x, 0, "!!!!!r+!!!!!o"), 1);
        due.is("10 ! in ((((", Due.text(x, 0, "((((!r+!o))))"), 1);
        due.is("10 ! closes behind )", Due.text(x, 0, "!!!(r)+!!!!!r"), 1);
    }

    private static void law() {
        RegretPegs x = new RegretPegs();
        due.is("11 use above", x.law(2, 0, 0, 0), Due.BEYOND);
        due.is("11 use below", x.law(-1, 0, 0, 0), Due.BEYOND);
        due.is("11 without, cut", x.law(0, 4, 5, 9), 4);
        due.is("11 without, held above", x.law(0, 2000, 0, 0), 999);
        due.is("11 without, held below", x.law(0, -9, 0, 0), 0);
        due.is("11 without, wraps", x.law(0, Integer.MAX_VALUE, Integer.MAX_VALUE, 0), 0);
        due.is("11 shifts without", x.law(1, -5, -5, -5), 1);
        Due.text(x, 0, "r*100+o*10+m");
        due.is("11 names in order", x.law(0, 1, 2, 3), 123);
        Due.text(x, 1, "d*100+m*10+p=123");
        due.is("11 names of shifts", x.law(1, 1, 2, 3), 1);
        due.is("11 names of shifts, other", x.law(1, 3, 2, 1), 0);
        Due.text(x, 1, "d");
        due.is("11 held to 1", x.law(1, 9, 0, 0), 1);
        due.is("11 held to 0", x.law(1, -9, 0, 0), 0);
        Due.text(x, 0, "r");
        due.is("11 held to 999", x.law(0, 1000, 0, 0), 999);
        due.is("11 held to 0", x.law(0, -1, 0, 0), 0);
    }

    private static void operators() {
        int min = Integer.MIN_VALUE;
        gives("r/o", 7, -2, 0, 0);
        gives("0-r/o", 7, -2, 0, 3);
        gives("r%o+9", -7, 3, 0, 8);
        gives("r/o", 7, 0, 0, 0);
        gives("r%o", 7, 0, 0, 0);
        gives("5+r/o%m", 7, 2, 0, 5);
        gives("r/o=r", min, -1, 0, 1);
        gives("r%o=0", min, -1, 0, 1);
        gives("r+o<0", Integer.MAX_VALUE, 1, 0, 1);
        gives("r*o", 65536, 65536, 0, 0);
        gives("r-o-m", 100, 30, 20, 50);
        gives("r-(o-m)", 100, 30, 20, 90);
        gives("r/o/m", 100, 5, 2, 10);
        gives("r/(o/m)", 100, 5, 2, 50);
        gives("r*o%m", 7, 5, 4, 3);
        gives("r+o*m", 2, 3, 4, 14);
        gives("(r+o)*m", 2, 3, 4, 20);
        gives("r|o", 0, 5, 0, 1);
        gives("r|o", 0, 0, 0, 0);
        gives("r&o", -3, 5, 0, 1);
        gives("r&o", -3, 0, 0, 0);
        gives("r|o&m", 5, 0, 0, 1);
        gives("(r|o)&m", 5, 0, 0, 0);
        gives("r<o", 1, 2, 0, 1);
        gives("r<o", 2, 2, 0, 0);
        gives("r>o", 3, 2, 0, 1);
        gives("r>o", 2, 2, 0, 0);
        gives("r=o", 2, 2, 0, 1);
        gives("r=o", 2, 3, 0, 0);
        gives("r+1<o*2", 4, 3, 0, 1);
        gives("!r", 5, 0, 0, 0);
        gives("!r", 0, 0, 0, 1);
        gives("!r+5", 0, 0, 0, 6);
        gives("!r*5", 0, 0, 0, 5);
        gives("!!r", 7, 0, 0, 1);
        gives("(r)", 7, 0, 0, 7);
        gives("0042", 0, 0, 0, 42);
        gives("9999", 0, 0, 0, 999);
    }

    private static void gives(String text, int r, int o, int m, int want) {
        RegretPegs x = new RegretPegs();
        due.is("10 text " + text, Due.text(x, 0, text), 1);
        due.is("11 " + text, x.law(0, r, o, m), want);
    }

    private static void wholeTape() {
        String ones = "1+".repeat(24);
        RegretPegs x = new RegretPegs();
        due.is("10 fifty bytes", Due.text(x, 0, ones + "10"), 1);
        due.is("11 fifty bytes give", x.law(0, 0, 0, 0), 34);
        due.is("10 fifty bytes, too early", Due.text(x, 0, ones + "r+"), -60);
        due.is("10 fault at the last", Due.text(x, 0, ones + "rr"), -59);
    }

    // ---- random TEXTS, written from trees whose worth is known

    private static final int[] at = new int[3];
    private static int worth;

    private static String tree(Random random, int level, int open) {
        if (level == 0) {
            int end = open > 0 ? random.nextInt(8) : 2 + random.nextInt(6);
            if (end == 0) {
                String inside = tree(random, 5, open - 1);
                return "(" + inside + ")";
            }
            if (end == 1) {
                String inside = tree(random, 0, open - 1);
                worth = worth == 0 ? 1 : 0;
                return "!" + inside;
            }
            if (end < 5) {
                worth = random.nextInt(end < 4 ? 10 : 10000);
                return Integer.toString(worth);
            }
            worth = at[end - 5];
            return "rom".substring(end - 5, end - 4);
        }
        String[] signs = {"", "*/%", "+-", "<=>", "&", "|"};
        StringBuilder text = new StringBuilder(tree(random, level - 1, open));
        int more = random.nextInt(7);
        more = more > 2 ? 0 : level == 3 ? 1 : more;
        for (int i = 0; i < more; i++) {
            int left = worth;
            char sign = signs[level].charAt(random.nextInt(signs[level].length()));
            text.append(sign).append(tree(random, level - 1, open));
            worth = join(sign, left, worth);
        }
        return text.toString();
    }

    private static int join(char sign, int a, int b) {
        switch (sign) {
            case '*': return a * b;
            case '/': return b == 0 ? 0 : a / b;
            case '%': return b == 0 ? 0 : a % b;
            case '+': return a + b;
            case '-': return a - b;
            case '<': return a < b ? 1 : 0;
            case '=': return a == b ? 1 : 0;
            case '>': return a > b ? 1 : 0;
            case '&': return a != 0 && b != 0 ? 1 : 0;
            default: return a != 0 || b != 0 ? 1 : 0;
        }
    }

    private static void randomTexts() {
        Random random = new Random(7);
        int read = 0;
        while (read < 20000) {
            for (int i = 0; i < 3; i++) {
                at[i] = random.nextInt(4) == 0 ? random.nextInt() : random.nextInt(20) - 5;
            }
            String text = tree(random, 5, 5);
            if (text.length() > 50) {
                continue;
            }
            RegretPegs x = new RegretPegs();
            due.is("10 text " + text, Due.text(x, 0, text), 1);
            due.is("11 " + text, x.law(0, at[0], at[1], at[2]), Math.max(0, Math.min(999, worth)));
            read++;
        }
    }

    // ---- random bytes, looked at by a machine that holds what is open as a text of its own

    /**
     * The FAULT, or -1. Open are '(' and '!'; each '(' remembers, as '<' behind it, that a sign of comparison
     * has stood at its level.
     */
    private static int fault(String text) {
        StringBuilder open = new StringBuilder();
        boolean compared = false;
        boolean wantsValue = true;
        int digits = 0;
        for (int i = 0; i < text.length(); i++) {
            char c = text.charAt(i);
            boolean digit = c >= '0' && c <= '9';
            long opens = open.chars().filter(o -> o != '<').count();
            if (wantsValue) {
                if (c == '!' || c == '(') {
                    if (opens == 5) {
                        return i;
                    }
                    if (c == '(' && compared) {
                        open.append('<');
                    }
                    open.append(c);
                    compared = c == '!' && compared;
                    continue;
                }
                if (!digit && "rom".indexOf(c) < 0) {
                    return i;
                }
                digits = digit ? 1 : 0;
                wantsValue = false;
                closeNots(open);
                continue;
            }
            if (digit && digits > 0 && digits < 4) {
                digits++;
                continue;
            }
            digits = 0;
            if (c == ')') {
                if (open.length() == 0) {
                    return i;
                }
                open.setLength(open.length() - 1);
                compared = open.length() > 0 && open.charAt(open.length() - 1) == '<';
                if (compared) {
                    open.setLength(open.length() - 1);
                }
                closeNots(open);
                continue;
            }
            if ("+-*/%".indexOf(c) >= 0) {
                wantsValue = true;
            } else if ("<=>".indexOf(c) >= 0 && !compared) {
                wantsValue = true;
                compared = true;
            } else if ("&|".indexOf(c) >= 0) {
                wantsValue = true;
                compared = false;
            } else {
                return i;
            }
        }
        return wantsValue || open.length() > 0 ? text.length() : -1;
    }

    private static void closeNots(StringBuilder open) {
        while (open.length() > 0 && open.charAt(open.length() - 1) == '!') {
            open.setLength(open.length() - 1);
        }
    }

    private static void randomFaults() {
        Random random = new Random(8);
        String signs = "romrom0123!(()))+-*/%<=>&|!((dp";
        for (int i = 0; i < 60000; i++) {
            StringBuilder text = new StringBuilder();
            int n = random.nextInt(51);
            if (i % 2 == 0) {
                String whole = tree(random, 5, 5);
                text.append(whole, 0, Math.min(50, whole.length()));
                int wrongs = random.nextInt(3);
                for (int w = 0; w < wrongs; w++) {
                    text.setCharAt(random.nextInt(text.length()), signs.charAt(random.nextInt(signs.length())));
                }
            } else {
                for (int k = 0; k < n; k++) {
                    int f = fault(text + "r");
                    char c = signs.charAt(random.nextInt(signs.length()));
                    boolean goesOn = fault(text.toString() + c) > text.length() || fault(text.toString() + c) < 0;
                    text.append(goesOn || random.nextInt(12) == 0 ? c : f < 0 ? 'r' : ')');
                }
            }
            int fault = fault(text.toString());
            due.is("10 FAULT of " + text, Due.text(new RegretPegs(), 0, text.toString()), fault < 0 ? 1 : -10 - fault);
        }
    }
}
