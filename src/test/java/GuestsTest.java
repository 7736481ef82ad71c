/** Promises 1 to 8. */
public final class GuestsTest {
    private static final Due due = new Due();

    public static void main(String[] args) {
        aNewObject();
        guest();
        ofGuest();
        grows();
        change();
        pegAndHang();
        become();
        as();
        due.end();
    }

    private static void aNewObject() {
        RegretPegs x = new RegretPegs();
        int[] first = {0, 0, 0, 0, 0, -1, 0, 0, 0, 1};
        for (int what = 0; what < 10; what++) {
            due.is("1 count(" + what + ")", x.count(what), first[what]);
        }
        for (int k = 1; k <= 5; k++) {
            due.is("1 told", x.told(k), 0);
        }
        due.is("1 peg(0)", x.peg(0), Due.BEYOND);
        due.is("1 ofGuest", x.ofGuest(0, 0), Due.BEYOND);
        due.is("1 trace(0)", x.trace(0), Due.NONE);
        for (int s = 0; s < 4; s++) {
            due.is("1 judge", x.judge(s), Due.NONE);
        }
        due.is("1 restore", x.restore(), Due.NONE);
        due.is("1 law(0)", x.law(0, 3, 6, 0), 4);
        due.is("1 law(1)", x.law(1, 0, 0, 0), 1);
    }

    private static void guest() {
        RegretPegs x = new RegretPegs();
        due.is("2 km below", x.guest(-1, 0), Due.BEYOND);
        due.is("2 km above", x.guest(70, 0), Due.BEYOND);
        due.is("2 km far", x.guest(Integer.MIN_VALUE, 0), Due.BEYOND);
        due.is("2 rue below", x.guest(0, -1), Due.BEYOND);
        due.is("2 rue above", x.guest(0, 1000), Due.BEYOND);
        due.is("2 none came", x.count(0), 0);
        due.is("2 least", x.guest(0, 0), 0);
        due.is("2 most", x.guest(69, 999), 1);
        due.is("2 last peg", x.peg(1), 1);
        due.is("2 danced", x.ofGuest(1, 3), 0);
        due.is("2 idle", x.ofGuest(1, 4), 1);
        x.hang(0, 1);
        for (int i = 2; i < 7; i++) {
            due.is("2 number", x.guest(11, i), i);
        }
        due.is("2 a new one hangs last", Due.order(x).equals("1023456") ? 1 : 0, 1);
        due.is("2 full", x.guest(0, 0), Due.FULL);
        due.is("2 beyond ahead of full", x.guest(0, 1000), Due.BEYOND);
        due.is("2 seven", x.count(0), 7);
    }

    private static void ofGuest() {
        RegretPegs x = Due.ball(47, 300, 52, 20);
        int[] want = {4, 7, 300, 0, 1, 0, 8};
        for (int what = 0; what < 7; what++) {
            due.is("3 what " + what, x.ofGuest(0, what), want[what]);
        }
        x.dance(0, 1);
        int[] danced = {4, 7, 160, 1, 0, 0, 2};
        for (int what = 0; what < 7; what++) {
            due.is("3 danced, what " + what, x.ofGuest(0, what), danced[what]);
        }
        due.is("3 what below", x.ofGuest(0, -1), Due.BEYOND);
        due.is("3 what above", x.ofGuest(0, 7), Due.BEYOND);
        due.is("3 guest below", x.ofGuest(-1, 0), Due.BEYOND);
        due.is("3 guest above", x.ofGuest(2, 0), Due.BEYOND);
    }

    private static void grows() {
        for (int m = 0; m < 10; m++) {
            int[] alone = {1, 1 + m % 3, 2, 0, 4 * (1 + m % 3), 2, -m};
            for (int kind = 0; kind < 7; kind++) {
                RegretPegs x = Due.ball(10 * kind + m, 500);
                due.is("3 GROWS " + kind + " " + m, x.ofGuest(0, 6), alone[kind]);
                x.guest(0, 0);
                x.guest(0, 0);
                due.is("3 GROWS ahead of two", x.ofGuest(0, 6), alone[kind] + (kind == 5 ? 2 : 0));
                x.hang(0, 1);
                due.is("3 GROWS ahead of one", x.ofGuest(0, 6), alone[kind] + (kind == 5 ? 1 : 0));
                x.change(0, 1, 3);
                due.is("3 GROWS danced", x.ofGuest(0, 6),
                    kind == 4 ? 1 + m % 3 : alone[kind] + (kind == 5 ? 1 : 0));
                x.change(0, 2, 0);
                due.is("3 GROWS not idle", x.ofGuest(0, 6),
                    kind == 4 ? 1 + m % 3 : alone[kind] + (kind == 5 ? 1 : 0));
            }
        }
    }

    private static void change() {
        RegretPegs x = Due.ball(0, 5, 10, 6);
        due.is("4 rue", x.change(1, 0, 999), 6);
        due.is("4 rue is", x.ofGuest(1, 2), 999);
        due.is("4 rue of the other stays", x.ofGuest(0, 2), 5);
        due.is("4 danced", x.change(1, 1, 999), 0);
        due.is("4 danced is", x.ofGuest(1, 3), 999);
        due.is("4 idle", x.change(1, 2, 0), 1);
        due.is("4 idle is", x.ofGuest(1, 4), 0);
        due.is("4 idle again", x.change(1, 2, 1), 0);
        int[][] beyond = {{2, 0, 0}, {-1, 0, 0}, {0, 3, 0}, {0, -1, 0}, {0, 0, 1000}, {0, 0, -1},
            {0, 1, 1000}, {0, 1, -1}, {0, 2, 2}, {0, 2, -1}};
        for (int[] b : beyond) {
            due.is("4 beyond", x.change(b[0], b[1], b[2]), Due.BEYOND);
        }
        due.is("4 told", x.told(1), beyond.length);
        due.is("4 nothing changed", x.change(0, 0, 0), 5);
        due.is("4 to 0", x.ofGuest(0, 2), 0);
    }

    private static void pegAndHang() {
        RegretPegs x = Due.ball(0, 1, 0, 2, 0, 3);
        due.is("5 first", x.peg(0), 0);
        due.is("5 last", x.peg(2), 2);
        due.is("5 below", x.peg(-1), Due.BEYOND);
        due.is("5 above", x.peg(3), Due.BEYOND);
        due.is("6 hang", x.hang(0, 2), 2);
        due.isTrue("6 order", Due.order(x).equals("210"));
        due.is("6 the same", x.hang(1, 1), 1);
        due.is("6 by pegs, not guests", x.hang(0, 1), 1);
        due.isTrue("6 order then", Due.order(x).equals("120"));
        due.is("6 peg of 0", x.ofGuest(0, 5), 2);
        due.is("6 below", x.hang(-1, 0), Due.BEYOND);
        due.is("6 above", x.hang(0, 3), Due.BEYOND);
        due.is("6 far", x.hang(Integer.MAX_VALUE, 0), Due.BEYOND);
        due.isTrue("6 order stays", Due.order(x).equals("120"));
    }

    private static void become() {
        RegretPegs x = Due.ball(35, 40);
        x.change(0, 1, 7);
        due.is("7 was", x.become(0, 69), 3);
        due.is("7 kind", x.ofGuest(0, 0), 6);
        due.is("7 m", x.ofGuest(0, 1), 9);
        due.is("7 rue stays", x.ofGuest(0, 2), 40);
        due.is("7 danced stays", x.ofGuest(0, 3), 7);
        due.is("7 was then", x.become(0, 0), 6);
        for (int km = 0; km < 70; km++) {
            x.become(0, km);
            due.is("7 kind and m of " + km, 10 * x.ofGuest(0, 0) + x.ofGuest(0, 1), km);
        }
        x.become(0, 0);
        due.is("7 km below", x.become(0, -1), Due.BEYOND);
        due.is("7 km above", x.become(0, 70), Due.BEYOND);
        due.is("7 guest above", x.become(1, 0), Due.BEYOND);
        due.is("7 guest below", x.become(-1, 0), Due.BEYOND);
        due.is("7 kind stays", x.ofGuest(0, 0), 0);
    }

    private static void as() {
        String[] are = {"0", "01", "02", "03", "014", "025", "036"};
        for (int kind = 0; kind < 7; kind++) {
            RegretPegs x = Due.ball(10 * kind + 8, 0);
            for (int of = 0; of < 7; of++) {
                boolean is = are[kind].indexOf((char) ('0' + of)) >= 0;
                due.is("8 " + kind + " as " + of, x.as(0, of), is ? 8 : Due.KIND);
            }
            due.is("8 kind above", x.as(0, 7), Due.BEYOND);
            due.is("8 kind below", x.as(0, -1), Due.BEYOND);
            due.is("8 guest above", x.as(1, 0), Due.BEYOND);
            due.is("8 guest below", x.as(-1, 0), Due.BEYOND);
        }
    }
}
