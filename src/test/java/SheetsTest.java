/** Promises 30 to 34. */
public final class SheetsTest {
    private static final Due due = new Due();

    public static void main(String[] args) {
        sheet();
        put();
        bits();
        move();
        moveErrors();
        rues();
        judge();
        due.end();
    }

    private static void sheet() {
        RegretPegs x = Due.ball(0, 7);
        due.is("30 least", x.sheet(0, 8, 0), 1);
        due.is("30 most", x.sheet(3, 32, 40), 1);
        due.is("30 all 0", x.rues(3), 1);
        due.is("30 rue is 0", x.ofGuest(0, 2), 0);
        x.put(3, 0, 5);
        due.is("30 again", x.sheet(3, 16, 1), 1);
        x.change(0, 0, 9);
        due.is("30 all 0 again", x.rues(3), 1);
        due.is("30 rue is 0 again", x.ofGuest(0, 2), 0);
        due.is("30 missing, n doesn't matter", x.sheet(3, 0, -5), 1);
        due.is("30 is missing", x.rues(3), Due.NONE);
        due.is("30 missing, n too great", x.sheet(0, 0, 41), 1);
        due.is("30 no such sheet", x.sheet(4, 8, 1), Due.BEYOND);
        due.is("30 sheet below", x.sheet(-1, 0, 0), Due.BEYOND);
        due.is("30 no such bits", x.sheet(0, 24, 1), Due.BEYOND);
        due.is("30 bits ahead of n", x.sheet(0, 64, -1), Due.BEYOND);
        due.is("30 bits below", x.sheet(0, -8, 1), Due.BEYOND);
        due.is("30 sheet ahead of n", x.sheet(4, 8, -1), Due.BEYOND);
        due.is("30 n below", x.sheet(0, 8, -1), Due.STATE);
        due.is("30 n far below", x.sheet(0, 8, Integer.MIN_VALUE), Due.STATE);
        due.is("30 n above", x.sheet(0, 8, 41), Due.BEYOND);
        due.is("30 it stays missing", x.put(0, 0, 0), Due.NONE);
    }

    private static void put() {
        RegretPegs x = Due.ball(0, 7, 0, 8);
        x.sheet(1, 32, 2);
        due.is("31 put", x.put(1, 1, 5), 1);
        due.is("31 the others stay", x.rues(1), 2);
        due.is("31 first", x.ofGuest(0, 2), 0);
        due.is("31 second", x.ofGuest(1, 2), 5);
        due.is("31 no such number", x.put(1, 2, 0), Due.BEYOND);
        due.is("31 number below", x.put(1, -1, 0), Due.BEYOND);
        due.is("31 missing", x.put(0, 0, 0), Due.NONE);
        due.is("31 none ahead of the number", x.put(0, 99, 0), Due.NONE);
        due.is("31 no such sheet", x.put(4, 0, 0), Due.BEYOND);
        due.is("31 sheet below", x.put(-1, 0, 0), Due.BEYOND);
        x.sheet(0, 8, 0);
        due.is("31 an empty one", x.put(0, 0, 0), Due.BEYOND);
    }

    /** How many numbers rues() takes from a SHEET with one number, and RUE then. */
    private static void kept(int bits, int v, int taken, int rue) {
        RegretPegs x = Due.ball(0, 7);
        Due.sheet(x, 2, bits, v);
        due.is("31 of " + bits + " bits: " + v, x.rues(2), taken);
        due.is("31 rue of " + v, x.ofGuest(0, 2), rue);
    }

    private static void bits() {
        kept(8, 127, 1, 127);
        kept(8, 256 + 5, 1, 5);
        kept(8, 999, 0, 7);
        kept(8, 128, 0, 7);
        kept(8, -1, 0, 7);
        kept(8, Integer.MIN_VALUE, 1, 0);
        kept(16, 999, 1, 999);
        kept(16, 65536 + 998, 1, 998);
        kept(16, 32768, 0, 7);
        kept(16, 1000, 0, 7);
        kept(32, 999, 1, 999);
        kept(32, 65536 + 998, 0, 7);
        kept(32, Integer.MIN_VALUE, 0, 7);
    }

    private static String numbers(RegretPegs x, int sheet) {
        int n = x.rues(sheet);
        StringBuilder text = new StringBuilder();
        for (int i = 0; i < n; i++) {
            text.append(x.ofGuest(i, 2));
        }
        return text.toString();
    }

    private static RegretPegs withSheet() {
        RegretPegs x = Due.ball(0, 7, 0, 7, 0, 7, 0, 7, 0, 7);
        Due.sheet(x, 0, 16, 1, 2, 3, 4, 5);
        return x;
    }

    private static void move() {
        RegretPegs x = withSheet();
        due.is("32 onward", x.move(0, 0, 0, 1, 4), 4);
        due.isTrue("32 as they all were, onward", numbers(x, 0).equals("11234"));
        x = withSheet();
        due.is("32 back", x.move(0, 2, 0, 1, 3), 3);
        due.isTrue("32 as they all were, back", numbers(x, 0).equals("13455"));
        x = withSheet();
        x.sheet(3, 16, 3);
        due.is("32 to another", x.move(0, 3, 3, 1, 2), 2);
        due.isTrue("32 another", numbers(x, 3).equals("045"));
        due.isTrue("32 the first stays", numbers(x, 0).equals("12345"));
        due.is("32 none", x.move(0, 5, 3, 3, 0), 0);
        due.is("32 all onto itself", x.move(0, 0, 0, 0, 5), 5);
    }

    private static void moveErrors() {
        RegretPegs x = withSheet();
        x.sheet(1, 8, 5);
        x.sheet(3, 16, 3);
        due.is("32 no such sheet", x.move(4, 0, 0, 0, 0), Due.BEYOND);
        due.is("32 no such other", x.move(0, 0, -1, 0, 0), Due.BEYOND);
        due.is("32 no such other, one missing", x.move(2, 0, 4, 0, 0), Due.BEYOND);
        due.is("32 missing", x.move(2, 0, 0, 0, 0), Due.NONE);
        due.is("32 the other missing", x.move(0, 0, 2, 0, 0), Due.NONE);
        due.is("32 none ahead of beyond", x.move(0, -1, 2, 0, -1), Due.NONE);
        due.is("32 unlike bits", x.move(0, 0, 1, 0, 1), Due.KIND);
        due.is("32 kind ahead of beyond", x.move(0, -1, 1, 0, 99), Due.KIND);
        int[][] beyond = {{0, 0, -1}, {-1, 0, 1}, {0, -1, 1}, {3, 0, 3}, {0, 1, 3}, {6, 0, 0}, {0, 4, 0},
            {Integer.MAX_VALUE, 0, 1}, {0, Integer.MAX_VALUE, 1}, {1, 0, Integer.MAX_VALUE},
            {Integer.MAX_VALUE, Integer.MAX_VALUE, Integer.MAX_VALUE}};
        for (int[] b : beyond) {
            due.is("32 beyond " + b[0] + " " + b[1] + " " + b[2], x.move(0, b[0], 3, b[1], b[2]), Due.BEYOND);
        }
        due.isTrue("32 nothing changed", numbers(x, 3).equals("000"));
    }

    private static void rues() {
        RegretPegs x = Due.ball(0, 1, 0, 2, 0, 3);
        Due.sheet(x, 0, 32, 999, 0);
        due.is("33 fewer numbers", x.rues(0), 2);
        due.is("33 of 0", x.ofGuest(0, 2), 999);
        due.is("33 of 1", x.ofGuest(1, 2), 0);
        due.is("33 of 2 stays", x.ofGuest(2, 2), 3);
        Due.sheet(x, 0, 32, 4, 5, 6, 7);
        due.is("33 more numbers", x.rues(0), 3);
        Due.sheet(x, 0, 32, 8, -1, 9);
        due.is("33 up to one below", x.rues(0), 1);
        due.is("33 the one ahead became it", x.ofGuest(0, 2), 8);
        due.is("33 the one behind didn't", x.ofGuest(2, 2), 6);
        Due.sheet(x, 0, 32, 1000);
        due.is("33 up to one above", x.rues(0), 0);
        due.is("33 no error", x.told(1), 0);
        due.is("33 missing", x.rues(1), Due.NONE);
        due.is("33 no such sheet", x.rues(4), Due.BEYOND);
        due.is("33 sheet below", x.rues(-1), Due.BEYOND);
        x.sheet(0, 8, 0);
        due.is("33 an empty one", x.rues(0), 0);
    }

    private static void judge() {
        RegretPegs x = Due.ball(0, 1, 0, 2, 0, 3);
        x.hang(0, 2);
        Due.sheet(x, 0, 8, 2, 1, 0);
        due.is("34 all are", x.judge(0), -1);
        x.put(0, 1, 0);
        due.is("34 the first that isn't", x.judge(0), 1);
        Due.sheet(x, 0, 16, 2, 1);
        due.is("34 one lacks", x.judge(0), 2);
        Due.sheet(x, 0, 32, 2, 1, 0, 0);
        due.is("34 one too many", x.judge(0), 3);
        x.put(0, 0, 1);
        due.is("34 an earlier one", x.judge(0), 0);
        x.sheet(0, 8, 0);
        due.is("34 all lack", x.judge(0), 0);
        due.is("34 missing", x.judge(1), Due.NONE);
        due.is("34 no such sheet", x.judge(4), Due.BEYOND);
        due.is("34 sheet below", x.judge(-1), Due.BEYOND);
        RegretPegs nobody = new RegretPegs();
        nobody.sheet(0, 8, 0);
        due.is("34 nobody", nobody.judge(0), -1);
        nobody.sheet(0, 8, 1);
        due.is("34 nobody, one too many", nobody.judge(0), 0);
    }
}
