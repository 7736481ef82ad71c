/** Promises 35 to 40. */
public final class KeptTest {
    private static final Due due = new Due();

    public static void main(String[] args) {
        imageKeepsAll();
        imageKeepsNotThese();
        imageInPlaceOfOneAhead();
        tell();
        check();
        count();
        told();
        due.end();
    }

    private static void imageKeepsAll() {
        RegretPegs x = Due.ball(45, 70, 21, 30);
        Due.text(x, 0, "r");
        Due.text(x, 1, "0");
        x.hours(2);
        x.dance(0, 1);
        x.seed(9);
        x.tell(4);
        Due.feed(x, "r+1");
        due.is("35 once", x.image(), 1);
        x.hang(0, 1);
        x.become(0, 13);
        x.change(1, 0, 500);
        x.change(1, 1, 17);
        x.guest(0, 3);
        x.hours(4);
        x.loose(1);
        x.tell(5);
        x.text(0);
        Due.text(x, 1, "1");
        Due.feed(x, "12345678");
        due.is("36 hour", x.restore(), 2);
        due.is("36 guests", x.count(0), 2);
        due.is("36 hour is", x.count(1), 2);
        due.is("36 kind", x.ofGuest(0, 0), 4);
        due.is("36 m", x.ofGuest(0, 1), 5);
        due.is("36 rue", x.ofGuest(1, 2), 34);
        due.is("36 danced", x.ofGuest(1, 3), 1);
        due.is("36 idle", x.count(4), 0);
        due.is("36 order", x.peg(0), 0);
        due.is("36 z", x.count(9), 9);
        due.is("36 waiting", x.count(7), 1);
        due.is("36 the text of dancing", x.law(0, 6, 0, 0), 6);
        due.is("36 the text of shifts", x.law(1, 6, 0, 0), 0);
        due.is("36 tape", x.count(6), 3);
        due.is("36 the tape's bytes", x.text(0), 1);
        due.is("36 the tape's text", x.law(0, 6, 0, 0), 7);
        due.is("36 it stays", x.restore(), 2);
        due.is("36 the tape again", x.count(6), 3);
        due.is("36 the number that waits", x.check(), 1);
        x.restore();
        due.is("36 no text is kept, too", x.count(7), 1);
        RegretPegs y = new RegretPegs();
        y.tell(0);
        y.image();
        y.check();
        y.tell(8);
        y.restore();
        due.is("36 the number that waits is the one kept", y.check(), 0);
        Due.text(y, 0, "r");
        y.restore();
        due.is("36 no text", y.law(0, 4, 6, 0), 5);
    }

    private static void imageKeepsNotThese() {
        RegretPegs x = Due.ball(0, 5);
        x.restore();
        x.voice(0, 0, 1);
        Due.sheet(x, 0, 8, 5);
        x.image();
        x.voice(0, 3, 1);
        x.sheet(0, 0, 0);
        Due.sheet(x, 1, 8, 6);
        x.peg(9);
        x.restore();
        due.is("35 the trace isn't kept", x.count(8), 4);
        due.is("35 its bodies", x.trace(0), 13);
        due.is("35 sheets aren't kept", x.rues(0), Due.NONE);
        due.is("35 sheets stay", x.rues(1), 1);
        due.is("35 what is told isn't kept", x.told(1), 1);
        due.is("35 how often isn't kept", x.image(), 2);
    }

    private static void imageInPlaceOfOneAhead() {
        RegretPegs x = Due.ball(0, 5);
        due.is("36 none", x.restore(), Due.NONE);
        x.image();
        x.hours(3);
        due.is("35 twice", x.image(), 2);
        x.hours(4);
        due.is("36 the latest", x.restore(), 3);
        due.is("36 rue", x.count(2), 8);
    }

    private static void tell() {
        RegretPegs x = new RegretPegs();
        for (int i = 1; i <= 20; i++) {
            due.is("37 waits", x.tell(Integer.MIN_VALUE), i);
        }
        due.is("37 full", x.tell(0), Due.FULL);
        due.is("37 twenty", x.count(7), 20);
        x.check();
        due.is("37 none do then", x.tell(0), 1);
    }

    private static void check() {
        RegretPegs x = Due.ball(20, 10, 33, 5);
        due.is("38 none wait", x.check(), 0);
        for (int i = 1; i <= 20; i++) {
            x.tell(15 + 2 * i);
        }
        due.is("38 all so", x.check(), 0);
        due.is("38 none wait then", x.count(7), 0);
        x.tell(17);
        x.tell(19);
        x.tell(20);
        x.tell(1);
        due.is("38 the third", x.check(), 3);
        due.is("38 none wait then, too", x.count(7), 0);
        x.tell(15);
        due.is("38 behind 1, not now", x.check(), 1);
        due.is("38 only thought", x.count(1), 0);
        x.change(0, 2, 0);
        x.tell(15);
        x.tell(17);
        due.is("38 not idle in the first", x.check(), 0);
    }

    private static void count() {
        RegretPegs x = Due.ball(0, 5, 20, 6, 30, 900);
        x.change(1, 2, 0);
        x.change(1, 1, 40);
        x.change(2, 1, 2);
        x.change(0, 1, 300);
        x.hang(2, 0);
        x.feed(0, 4);
        x.tell(1);
        x.voice(0, 1, 1);
        x.seed(-5);
        int[] want = {3, 0, 911, 342, 5, 0, 4, 1, 2, -5};
        for (int what = 0; what < 10; what++) {
            due.is("39 what " + what, x.count(what), want[what]);
        }
        due.is("39 below", x.count(-1), Due.BEYOND);
        due.is("39 above", x.count(10), Due.BEYOND);
        x.hours(2);
        due.is("39 hour", x.count(1), 2);
        due.is("39 all are idle", x.count(4), 7);
    }

    private static void told() {
        RegretPegs x = Due.ball(0, 5);
        x.peg(1);
        x.partner(0, 0, 0);
        x.judge(0);
        x.sheet(0, 8, -1);
        x.as(0, 1);
        x.as(0, 2);
        x.as(0, 3);
        for (int i = 0; i < 24; i++) {
            x.tell(0);
        }
        int[] want = {1, 2, 1, 4, 3};
        for (int k = 1; k <= 5; k++) {
            due.is("40 told(" + k + ")", x.told(k), want[k - 1]);
        }
        due.is("40 k 0", x.told(0), Due.BEYOND);
        due.is("40 k 6", x.told(6), Due.BEYOND);
        due.is("40 k far", x.told(Integer.MIN_VALUE), Due.BEYOND);
        due.is("40 counted, too", x.told(1), 4);
        x.text(0);
        due.is("40 a FAULT is none", x.told(1), 4);
    }
}
