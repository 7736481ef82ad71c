/** Promises 12 to 14. */
public final class DancesTest {
    private static final Due due = new Due();

    public static void main(String[] args) {
        dance();
        danceByText();
        danceErrors();
        growing();
        holding();
        shifting();
        shiftingByText();
        fianceByTheOrderAsItIs();
        hoursErrors();
        loose();
        looseOfFew();
        looseErrors();
        due.end();
    }

    private static void dance() {
        RegretPegs x = Due.ball(0, 60, 14, 31);
        due.is("12 rue of the first", x.dance(1, 0), 45);
        due.is("12 rue of the other", x.ofGuest(0, 2), 45);
        due.is("12 danced", x.ofGuest(0, 3), 1);
        due.is("12 danced, too", x.ofGuest(1, 3), 1);
        due.is("12 idle", x.count(4), 0);
        x.change(0, 1, 999);
        x.change(0, 2, 1);
        x.change(1, 2, 1);
        x.dance(0, 1);
        due.is("12 danced is held", x.ofGuest(0, 3), 999);
        due.is("12 danced of the other", x.ofGuest(1, 3), 2);
    }

    private static void danceByText() {
        RegretPegs x = Due.ball(3, 100, 17, 40);
        Due.text(x, 0, "r-o+m");
        due.is("12 by the text", x.dance(0, 1), 63);
        due.is("12 as they were ahead of it, held", x.ofGuest(1, 2), 0);
        RegretPegs y = Due.ball(3, 100, 17, 40);
        Due.text(y, 0, "o*10+m");
        due.is("12 of the other", y.dance(0, 1), 403);
        due.is("12 m of that one", y.ofGuest(1, 2), 999);
        RegretPegs z = Due.ball(3, 10, 17, 40);
        Due.text(z, 0, "o*10+m");
        due.is("12 the second first", z.dance(1, 0), 107);
        due.is("12 the other one", z.ofGuest(0, 2), 403);
    }

    private static void danceErrors() {
        RegretPegs x = Due.ball(0, 60, 14, 30, 20, 10);
        due.is("12 one and the same", x.dance(1, 1), Due.BEYOND);
        due.is("12 no such one", x.dance(3, 0), Due.BEYOND);
        due.is("12 no such other", x.dance(0, -1), Due.BEYOND);
        x.change(1, 2, 0);
        due.is("12 one isn't idle", x.dance(1, 0), Due.STATE);
        due.is("12 the other isn't idle", x.dance(0, 1), Due.STATE);
        due.is("12 the same and not idle", x.dance(1, 1), Due.BEYOND);
        due.is("12 nothing changed", x.count(2), 100);
        due.is("12 nobody danced", x.count(3), 0);
        due.is("12 who are idle", x.count(4), 5);
        due.is("12 the idle ones dance", x.dance(0, 2), 35);
    }

    private static void growing() {
        RegretPegs x = Due.ball(0, 10, 11, 20, 20, 30, 30, 40, 42, 50, 50, 90, 63, 95);
        due.is("13 sum", x.hours(1), 335 + 1 + 2 + 2 + 0 + 12 + 3 - 3);
        int[] rue = {11, 22, 32, 40, 62, 93, 92};
        for (int i = 0; i < 7; i++) {
            due.is("13 rue of " + i, x.ofGuest(i, 2), rue[i]);
        }
        due.isTrue("13 shifted", Due.order(x).equals("0123465"));
        due.is("13 hour", x.count(1), 1);
        x.dance(0, 4);
        due.is("13 the danced don't grow", x.hours(1), 36 + 24 + 34 + 40 + 36 + 95 + 89);
        due.is("13 all are idle", x.count(4), 127);
        due.is("13 then they do, less", x.hours(1), 37 + 26 + 36 + 40 + 39 + 97 + 86);
        due.is("13 hour then", x.count(1), 3);
    }

    private static void holding() {
        RegretPegs x = Due.ball(20, 998, 69, 5);
        due.is("13 held", x.hours(1), 999);
        due.is("13 below", x.ofGuest(1, 2), 0);
        due.is("13 above", x.ofGuest(0, 2), 999);
        due.is("13 held again", x.hours(2), 999);
    }

    private static void shifting() {
        RegretPegs x = Due.ball(30, 50, 30, 40, 30, 30, 30, 20);
        x.hours(1);
        due.isTrue("13 once from peg 0 on", Due.order(x).equals("1230"));
        x.hours(1);
        due.isTrue("13 twice", Due.order(x).equals("2310"));
        x.hours(1);
        due.isTrue("13 three times", Due.order(x).equals("3210"));
        x.hours(5);
        due.isTrue("13 then it is right", Due.order(x).equals("3210"));
        RegretPegs y = Due.ball(30, 5, 30, 5);
        y.hours(3);
        due.isTrue("13 alike isn't wrong", Due.order(y).equals("01"));
        RegretPegs z = Due.ball(0, 5, 30, 5);
        z.hours(1);
        due.isTrue("13 it grows, then it shifts", Due.order(z).equals("10"));
    }

    private static void shiftingByText() {
        RegretPegs x = Due.ball(30, 50, 30, 49, 30, 30);
        Due.text(x, 1, "d>5");
        x.hours(1);
        due.isTrue("13 by d", Due.order(x).equals("021"));
        RegretPegs y = Due.ball(34, 50, 31, 40, 38, 30);
        Due.text(y, 1, "m=4");
        y.hours(1);
        due.isTrue("13 by m of the one ahead", Due.order(y).equals("120"));
        RegretPegs z = Due.ball(30, 50, 30, 40, 30, 30);
        Due.text(z, 1, "p");
        z.hours(1);
        due.isTrue("13 by p", Due.order(z).equals("021"));
        RegretPegs none = Due.ball(30, 50, 30, 40);
        Due.text(none, 1, "0-d");
        none.hours(4);
        due.isTrue("13 below 0 is held to 0", Due.order(none).equals("01"));
        RegretPegs right = Due.ball(30, 40, 30, 50);
        Due.text(right, 1, "1");
        right.hours(4);
        due.isTrue("13 the right ones stay", Due.order(right).equals("01"));
    }

    private static void fianceByTheOrderAsItIs() {
        RegretPegs x = Due.ball(50, 100, 30, 0, 50, 20);
        due.is("13 two fiances", x.hours(1), 104 + 0 + 22);
        due.isTrue("13 order", Due.order(x).equals("120"));
        due.is("13 in the new order", x.hours(1), 106 + 0 + 25);
    }

    private static void hoursErrors() {
        RegretPegs x = Due.ball(30, 7);
        due.is("13 n 0", x.hours(0), Due.BEYOND);
        due.is("13 n 61", x.hours(61), Due.BEYOND);
        due.is("13 n below", x.hours(-1), Due.BEYOND);
        for (int i = 0; i < 166; i++) {
            due.is("13 sixty", x.hours(60), 7);
        }
        due.is("13 hour", x.count(1), 9960);
        due.is("13 above", x.hours(40), Due.STATE);
        due.is("13 beyond ahead of state", x.hours(61), Due.BEYOND);
        due.is("13 to 9999", x.hours(39), 7);
        due.is("13 no more", x.hours(1), Due.STATE);
        due.is("14 no more", x.loose(1), Due.STATE);
        due.is("14 beyond ahead of state", x.loose(41), Due.BEYOND);
        due.is("13 hour stays", x.count(1), 9999);
        due.is("15 thought goes on", x.then(60, 0, 0), 7);
        RegretPegs y = Due.ball(30, 7);
        for (int i = 0; i < 166; i++) {
            y.hours(60);
        }
        due.is("14 above", y.loose(40), Due.STATE);
        due.is("14 to 9999", y.loose(39), 7);
        due.is("14 hour", y.count(1), 9999);
    }

    private static void loose() {
        RegretPegs x = Due.ball(3, 20, 25, 160, 31, 80);
        RegretPegs y = Due.ball(3, 20, 25, 160, 31, 80);
        int z = 77;
        x.seed(z);
        x.change(0, 2, 0);
        y.change(0, 2, 0);
        for (int i = 0; i < 30; i++) {
            z = z * 1103515245 + 12345;
            int one = (z >>> 8) % 3;
            z = z * 1103515245 + 12345;
            int other = (z >>> 8) % 3;
            if (one != other) {
                y.change(one, 2, 1);
                y.change(other, 2, 1);
                y.dance(one, other);
            }
            due.is("14 ball " + i, x.loose(1), y.hours(1));
            due.is("14 z", x.count(9), z);
            due.isTrue("14 order", Due.order(x).equals(Due.order(y)));
        }
        due.is("14 hour", x.count(1), 30);
        RegretPegs w = Due.ball(3, 20, 25, 160, 31, 80);
        w.seed(77);
        w.change(0, 2, 0);
        due.is("14 thirty at once", w.loose(30), x.count(2));
        due.is("14 danced", w.count(3), x.count(3));
        due.is("14 z at once", w.count(9), z);
    }

    private static void looseOfFew() {
        RegretPegs x = new RegretPegs();
        due.is("14 nobody", x.loose(3), 0);
        due.is("14 no draws", x.count(9), 1);
        due.is("14 hours", x.count(1), 3);
        x.guest(0, 5);
        due.is("14 one", x.loose(40), 45);
        due.is("14 no draws of one", x.count(9), 1);
        x.guest(0, 5);
        x.loose(1);
        due.is("14 two draws of two", x.count(9), (1 * 1103515245 + 12345) * 1103515245 + 12345);
    }

    private static void looseErrors() {
        RegretPegs x = Due.ball(0, 1, 0, 2);
        due.is("14 n 0", x.loose(0), Due.BEYOND);
        due.is("14 n 41", x.loose(41), Due.BEYOND);
        due.is("14 n below", x.loose(-40), Due.BEYOND);
        due.is("14 nothing changed", x.count(9), 1);
        due.is("14 hour", x.count(1), 0);
    }
}
