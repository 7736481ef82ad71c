/** Counts the answers that are not as due; what every test of the project uses. */
final class Due {
    static final int BEYOND = -1000000001;
    static final int NONE = -1000000002;
    static final int STATE = -1000000003;
    static final int FULL = -1000000004;
    static final int KIND = -1000000005;

    private int wrong = 0;
    private int asked = 0;

    void is(String call, long got, long want) {
        asked++;
        if (got != want) {
            wrong++;
            System.out.println(call + " answered " + got + ", due is " + want);
        }
    }

    void isTrue(String what, boolean holds) {
        is(what, holds ? 1 : 0, 1);
    }

    void end() {
        if (wrong != 0) {
            System.out.println(wrong + " of " + asked + " answers are not as due");
            System.exit(1);
        }
    }

    static boolean isError(int answer) {
        return answer <= BEYOND && answer >= KIND;
    }

    /** An object with GUESTS: pairs of km and RUE. */
    static RegretPegs ball(int... kmAndRue) {
        RegretPegs x = new RegretPegs();
        for (int i = 0; i + 1 < kmAndRue.length; i += 2) {
            x.guest(kmAndRue[i], kmAndRue[i + 1]);
        }
        return x;
    }

    /** A ball at an HOUR. */
    static RegretPegs late(int hour, int... kmAndRue) {
        RegretPegs x = ball(kmAndRue);
        for (int gone = 0; gone < hour; gone += Math.min(60, hour - gone)) {
            x.hours(Math.min(60, hour - gone));
        }
        return x;
    }

    /** Feeds a text by eight bytes at a time; what the last feed answered. */
    static int feed(RegretPegs x, String text) {
        int answer = 0;
        for (int from = 0; from < text.length(); from += 8) {
            int n = Math.min(8, text.length() - from);
            long word = 0;
            for (int i = 0; i < n; i++) {
                word |= (text.charAt(from + i) & 255L) << (8 * i);
            }
            answer = x.feed(word, n);
        }
        return answer;
    }

    static int text(RegretPegs x, int use, String text) {
        feed(x, text);
        return x.text(use);
    }

    /** A sheet of so many bits with these numbers. */
    static void sheet(RegretPegs x, int sheet, int bits, int... numbers) {
        x.sheet(sheet, bits, numbers.length);
        for (int i = 0; i < numbers.length; i++) {
            x.put(sheet, i, numbers[i]);
        }
    }

    /** The GUESTS by PEG, as digits: "021". */
    static String order(RegretPegs x) {
        StringBuilder pegs = new StringBuilder();
        for (int p = 0; p < x.count(0); p++) {
            pegs.append(x.peg(p));
        }
        return pegs.toString();
    }
}
