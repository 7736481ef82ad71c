/** Promises 15 to 26, by hand. */
public final class ThoughtsTest {
    private static final Due due = new Due();

    public static void main(String[] args) {
        then();
        last();
        partner();
        dances();
        whoDanced();
        inOrder();
        wrongs();
        swap();
        go();
        allRue();
        sorriest();
        odds();
        due.end();
    }

    /** A new object each time: 0 falls behind 1 and 2, who don't grow. */
    private static RegretPegs three() {
        return Due.ball(20, 10, 30, 13, 30, 21);
    }

    private static void then() {
        RegretPegs x = three();
        due.is("15 now, rue", x.then(0, 0, 0), 10);
        due.is("15 now, peg", x.then(0, 0, 1), 0);
        due.is("15 behind 2, rue", x.then(2, 0, 0), 14);
        due.is("15 behind 2, peg", x.then(2, 0, 1), 1);
        due.is("15 behind 60", x.then(60, 0, 0), 130);
        due.is("15 behind 6, peg", x.then(6, 0, 1), 2);
        due.is("15 only thought", x.count(2), 44);
        due.is("15 only thought, hour", x.count(1), 0);
        x.change(0, 2, 0);
        due.is("15 not idle in the first", x.then(2, 0, 0), 12);
        due.is("15 still not idle", x.ofGuest(0, 4), 0);
        due.is("15 n 61", x.then(61, 0, 0), Due.BEYOND);
        due.is("15 n below", x.then(-1, 0, 0), Due.BEYOND);
        due.is("15 no such guest", x.then(0, 3, 0), Due.BEYOND);
        due.is("15 guest below", x.then(0, -1, 0), Due.BEYOND);
        due.is("15 what 2", x.then(0, 0, 2), Due.BEYOND);
        due.is("15 what below", x.then(0, 0, -1), Due.BEYOND);
    }

    private static void last() {
        RegretPegs x = three();
        due.is("16 already", x.last(2), 0);
        due.is("16 behind 6", x.last(0), 6);
        due.is("16 never", x.last(1), Due.NONE);
        due.is("16 no such guest", x.last(3), Due.BEYOND);
        due.is("16 below", x.last(-1), Due.BEYOND);
        due.is("16 only thought", x.count(1), 0);
        // It is above 100 behind 60 HOURS for the first time, or behind 61.
        due.is("16 at 60", Due.ball(0, 41, 30, 100).last(0), 60);
        due.is("16 not by 60", Due.ball(0, 40, 30, 100).last(0), Due.NONE);
    }

    private static void partner() {
        RegretPegs x = Due.ball(30, 200, 30, 300, 30, 100, 30, 100, 30, 190);
        x.hang(0, 4);
        due.is("17 who now, all alike", x.partner(0, 0, 0), 1);
        due.is("17 the peg now", x.partner(0, 0, 1), 4);
        due.is("17 who, the least of several", x.partner(0, 20, 0), 2);
        // RUE of 0 and 2 is 150 then; 3 is lighter, 4 and 1 are not; two alike stay as they hang.
        due.is("17 the peg", x.partner(0, 20, 1), 2);
        due.is("17 only thought", x.count(3), 0);
        due.is("17 nobody else", Due.ball(0, 5).partner(0, 3, 0), Due.NONE);
        due.is("17 beyond ahead of none", Due.ball(0, 5).partner(0, 21, 0), Due.BEYOND);
        due.is("17 n below", x.partner(0, -1, 0), Due.BEYOND);
        due.is("17 what 2", x.partner(0, 0, 2), Due.BEYOND);
        due.is("17 what below", x.partner(0, 0, -1), Due.BEYOND);
        due.is("17 no such guest", x.partner(5, 0, 0), Due.BEYOND);
        due.is("17 guest below", x.partner(-1, 0, 0), Due.BEYOND);
        x.change(0, 2, 0);
        x.change(2, 2, 0);
        due.is("17 whether idle or not", x.partner(0, 20, 0), 2);
    }

    private static void dances() {
        RegretPegs x = Due.ball(30, 0, 30, 100, 30, 101, 30, 400);
        due.is("18 none needed", x.dances(2, 2, 6, 0), 0);
        due.is("18 none needed, -1", x.dances(2, 2, 6, 1), -1);
        due.is("18 one", x.dances(2, 1, 6, 0), 1);
        due.is("18 the first", x.dances(2, 1, 6, 1), 2);
        due.is("18 not in no hours", x.dances(2, 1, 0, 0), Due.NONE);
        // With 0, then with 1, it comes to 150; 2 stays at 101.
        due.is("18 not by two, for peg 0", x.dances(3, 0, 6, 0), Due.NONE);
        due.is("18 only thought", x.count(3), 0);
        RegretPegs others = Due.ball(30, 50, 30, 100, 30, 900);
        due.is("18 others may dance", others.dances(1, 0, 6, 0), 1);
        due.is("18 others, the first", others.dances(1, 0, 6, 1), 2);
        RegretPegs y = Due.ball(30, 0, 30, 100, 30, 900);
        Due.text(y, 0, "(r<500)*r+(r>499)*(r-o)");
        // 900 less 100 twice is 700, less 0 is 900: never ahead of 100.
        due.is("18 not by two", y.dances(2, 1, 6, 0), Due.NONE);
        due.is("18 not by two, first", y.dances(2, 1, 6, 1), Due.NONE);
        due.is("18 alone", Due.ball(0, 9).dances(0, 0, 3, 0), 0);
        int[][] beyond = {{4, 0, 0, 0}, {-1, 0, 0, 0}, {0, 4, 0, 0}, {0, -1, 0, 0}, {0, 0, 7, 0}, {0, 0, -1, 0},
            {0, 0, 0, 2}, {0, 0, 0, -1}};
        for (int[] b : beyond) {
            due.is("18 beyond", x.dances(b[0], b[1], b[2], b[3]), Due.BEYOND);
        }
        RegretPegs z = Due.ball(30, 10, 30, 100, 30, 500);
        Due.text(z, 0, "r/2+m");
        // 500, 250, 125 with anybody, 62 by no third: 100 is halved with it, or 10.
        due.is("18 two, others' too", z.dances(2, 1, 6, 0), Due.NONE);
        z.change(2, 0, 399);
        due.is("18 two", z.dances(2, 1, 6, 0), 2);
        due.is("18 two, the first", z.dances(2, 1, 6, 1), 2);
    }

    private static void whoDanced() {
        RegretPegs x = Due.ball(0, 20, 0, 10, 0, 10);
        Due.sheet(x, 0, 16, 15, 15, 10);
        due.is("19 how many", x.whoDanced(0, 0), 1);
        due.is("19 the first", x.whoDanced(0, 1), 1);
        Due.sheet(x, 0, 8, 15, 10, 15);
        due.is("19 the other", x.whoDanced(0, 1), 2);
        Due.sheet(x, 1, 32, 20, 10, 10);
        due.is("19 two alike", x.whoDanced(1, 0), 1);
        due.is("19 12", x.whoDanced(1, 1), 12);
        x.put(1, 2, 11);
        due.is("19 none, 0", x.whoDanced(1, 0), 0);
        due.is("19 none", x.whoDanced(1, 1), Due.NONE);
        Due.sheet(x, 2, 32, 15, 15);
        due.is("19 too few numbers", x.whoDanced(2, 0), Due.NONE);
        Due.sheet(x, 2, 32, 15, 15, 10, 0);
        due.is("19 too many numbers", x.whoDanced(2, 0), Due.NONE);
        due.is("19 missing", x.whoDanced(3, 0), Due.NONE);
        due.is("19 what ahead of missing", x.whoDanced(3, 2), Due.BEYOND);
        due.is("19 what below", x.whoDanced(0, -1), Due.BEYOND);
        due.is("19 no such sheet", x.whoDanced(4, 0), Due.BEYOND);
        due.is("19 sheet below", x.whoDanced(-1, 0), Due.BEYOND);
        RegretPegs alike = Due.ball(0, 5, 0, 5, 0, 5);
        Due.sheet(alike, 0, 8, 5, 5, 5);
        due.is("19 all alike", alike.whoDanced(0, 0), 3);
        due.is("19 all alike, first", alike.whoDanced(0, 1), 1);
        alike.change(0, 2, 0);
        due.is("19 whether idle or not", alike.whoDanced(0, 0), 3);
        RegretPegs nobody = new RegretPegs();
        due.is("19 nobody, missing", nobody.whoDanced(0, 0), Due.NONE);
        nobody.sheet(0, 8, 0);
        due.is("19 nobody", nobody.whoDanced(0, 0), 0);
        due.is("19 nobody, first", nobody.whoDanced(0, 1), Due.NONE);
    }

    private static void inOrder() {
        due.is("20 nobody", new RegretPegs().inOrder(), 0);
        due.is("20 right", three().inOrder(), 0);
        due.is("20 alike", Due.ball(30, 5, 30, 5).inOrder(), 0);
        RegretPegs x = Due.ball(30, 50, 30, 40, 30, 30, 30, 20);
        due.is("20 three", x.inOrder(), 3);
        due.is("20 only thought", x.wrongs(), 6);
        Due.text(x, 1, "0");
        due.is("20 never", x.inOrder(), Due.NONE);
        // Nothing shifts; the one behind comes to 100 behind 60 HOURS, or behind 61.
        RegretPegs y = Due.ball(30, 100, 0, 40);
        Due.text(y, 1, "0");
        due.is("20 at 60", y.inOrder(), 60);
        y.change(1, 0, 39);
        due.is("20 not by 60", y.inOrder(), Due.NONE);
    }

    private static void wrongs() {
        due.is("21 nobody", new RegretPegs().wrongs(), 0);
        due.is("21 all", Due.ball(30, 50, 30, 40, 30, 30, 30, 20).wrongs(), 6);
        due.is("21 alike", Due.ball(30, 50, 30, 50, 30, 50).wrongs(), 0);
        RegretPegs x = Due.ball(30, 30, 30, 40, 30, 20);
        due.is("21 not next to each other, too", x.wrongs(), 2);
        x.hang(1, 2);
        due.is("21 by pegs", x.wrongs(), 1);
    }

    private static void swap() {
        due.is("22 nobody", new RegretPegs().swap(), -1);
        due.is("22 right", three().swap(), -1);
        due.is("22 the outer", Due.ball(30, 50, 30, 40, 30, 30).swap(), 2);
        RegretPegs x = Due.ball(30, 5, 30, 10);
        due.is("22 right now", x.swap(), -1);
        x.hang(0, 1);
        due.is("22 the greater hangs ahead", x.swap(), 1);
        due.is("22 only thought", x.peg(0), 1);
        due.is("22 the first of several", Due.ball(30, 2, 30, 1, 30, 4, 30, 3).swap(), 1);
        due.is("22 least counts", Due.ball(30, 1, 30, 9, 30, 5, 30, 4).swap(), 13);
        due.is("22 no error", x.told(2), 0);
    }

    private static void go() {
        RegretPegs x = Due.ball(30, 60, 30, 10, 30, 50, 30, 40);
        due.is("23 now all alike", x.go(3, 0), 0);
        // 3 hangs behind 1 and ahead of the others anyway; with 0 or 2 at 0 it hangs further behind.
        due.is("23 one who is light anyway", x.go(3, 20), 1);
        due.is("23 of 0: whoever", x.go(0, 20), 1);
        due.is("23 only thought", x.count(2), 160);
        due.is("23 nobody else", Due.ball(0, 1).go(0, 0), Due.NONE);
        due.is("23 beyond ahead of none", Due.ball(0, 1).go(0, 21), Due.BEYOND);
        due.is("23 n below", x.go(0, -1), Due.BEYOND);
        due.is("23 no such guest", x.go(4, 0), Due.BEYOND);
        due.is("23 guest below", x.go(-1, 0), Due.BEYOND);
    }

    private static void allRue() {
        RegretPegs x = three();
        due.is("24 now", x.allRue(0), 44);
        due.is("24 behind 7", x.allRue(7), 58);
        due.is("24 behind 60", x.allRue(60), 164);
        due.is("24 n 61", x.allRue(61), Due.BEYOND);
        due.is("24 n below", x.allRue(-1), Due.BEYOND);
        due.is("24 nobody", new RegretPegs().allRue(60), 0);
        due.is("24 only thought", x.count(2), 44);
    }

    private static void sorriest() {
        RegretPegs x = three();
        due.is("25 now", x.sorriest(0, 0), 2);
        due.is("25 now, rue", x.sorriest(0, 1), 21);
        due.is("25 behind 6", x.sorriest(6, 0), 0);
        due.is("25 behind 6, rue", x.sorriest(6, 1), 22);
        due.is("25 n 60", x.sorriest(60, 1), 130);
        due.is("25 the least of several", Due.ball(30, 5, 30, 7, 30, 7).sorriest(0, 0), 1);
        due.is("25 nobody", new RegretPegs().sorriest(0, 0), Due.NONE);
        due.is("25 beyond ahead of none", new RegretPegs().sorriest(61, 0), Due.BEYOND);
        due.is("25 n below", x.sorriest(-1, 0), Due.BEYOND);
        due.is("25 what 2", x.sorriest(0, 2), Due.BEYOND);
        due.is("25 what below", x.sorriest(0, -1), Due.BEYOND);
    }

    private static void odds() {
        // With 0 or 1 it comes to 150 or 170, ahead of 3 and 4; with 3 or 4 it stays behind.
        RegretPegs x = Due.ball(30, 0, 30, 40, 30, 300, 30, 200, 30, 200);
        due.is("26 above", x.odds(2, 2, 60, 0), 1);
        due.is("26 below", x.odds(2, 2, 60, 1), 2);
        due.is("26 never, above", x.odds(2, 0, 0, 0), 0);
        due.is("26 never, below", x.odds(2, 0, 0, 1), 1);
        due.is("26 always, above", x.odds(2, 4, 60, 0), 1);
        due.is("26 always, below", x.odds(2, 4, 60, 1), 1);
        due.is("26 only thought", x.count(3), 0);
        due.is("26 nobody else", Due.ball(0, 1).odds(0, 0, 0, 0), Due.NONE);
        due.is("26 beyond ahead of none", Due.ball(0, 1).odds(0, 1, 0, 0), Due.BEYOND);
        int[][] beyond = {{5, 0, 0, 0}, {-1, 0, 0, 0}, {0, 5, 0, 0}, {0, -1, 0, 0}, {0, 0, 61, 0}, {0, 0, -1, 0},
            {0, 0, 0, 2}, {0, 0, 0, -1}};
        for (int[] b : beyond) {
            due.is("26 beyond", x.odds(b[0], b[1], b[2], b[3]), Due.BEYOND);
        }
    }
}
