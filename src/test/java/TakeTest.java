/** Promises 15 to 21: where, takes, level, again, fast, seat, lever. */
public final class TakeTest {
    private static final Due due = new Due("TakeTest");

    public static void main(String[] args) {
        where();
        takes();
        level();
        again();
        fast();
        seat();
        lever();
        leverRows();
        nothingIsChanged();
        due.end();
    }

    private static void where() {
        RingRiders x = Due.told("round 5 3;horse 2 1 1;rider 0 1 2;go 2;");
        // Angle 6 by 5 is 1, so place 3; tick 2 and phase 1 make u 3, so 6 high.
        due.is("place now", x.where(0, 0, 0), 3);
        due.is("high now", x.where(0, 0, 1), 6);
        due.is("place behind 1", x.where(0, 1, 0), 1);
        due.is("high behind 1", x.where(0, 1, 1), 7);
        due.is("place behind 60", x.where(0, 60, 0), 3);
        due.is("high behind 60", x.where(0, 60, 1), 4);
        due.is("high behind 59", x.where(0, 59, 1), 5);
        x = Due.told("round 4 2;horse 0 4 0;horse 1 3 0;rider 0 1 0;rider 0 1 1;");
        due.is("stallion by 2 behind 4", x.where(0, 4, 1), 9);
        due.is("swan by 2 behind 4", x.where(1, 4, 1), 1);
        due.allAre("wrong where", RingRiders.BAD, x.where(2, 0, 0), x.where(-1, 0, 0), x.where(0, -1, 0),
                x.where(0, 61, 0), x.where(0, 0, 2), x.where(0, 0, -1));
        due.is("they count", x.status(0), 6);
    }

    private static void takes() {
        RingRiders x = Due.told("round 4 1;rider 0 5 0;");
        due.is("at the post behind 4", x.takes(0), 4);
        x.ticks(1);
        due.is("behind 3", x.takes(0), 3);
        x.ticks(3);
        due.is("then it hangs too high", x.takes(0), RingRiders.NONE);
        // The one on seat 2 comes first and has it hang higher.
        x = Due.told("round 4 1;rider 0 5 0;rider 0 5 2;");
        due.is("the other took it", x.takes(0), RingRiders.NONE);
        due.is("the other takes it", x.takes(1), 2);
        // Of 12 seats, phase 0, u is 4 behind 12 ticks.
        x = Due.told("round 12 1;horse 0 1 0;rider 0 1 0;");
        due.is("a gallop at its highest", x.takes(0), 12);
        x = Due.told("round 12 1;horse 0 1 4;rider 0 1 0;");
        due.is("a gallop at its lowest first", x.takes(0), 24);
        // By 1 of 11 seats, at the post behind 11, 22, 33, 44, 55: u is 4 behind 44 only.
        x = Due.told("round 11 1;horse 0 1 0;rider 0 1 0;");
        due.is("behind 44", x.takes(0), 44);
        x = Due.told("round 4 0;rider 2 9 1;");
        due.is("it never comes by", x.takes(0), RingRiders.NONE);
        // Seat 0 of 9 comes by in ticks 9 k; of phase 5 the gallop is at its highest in tick 63 alone.
        x = Due.told("round 9 1;horse 0 1 5;rider 0 1 0;go 3;");
        due.is("behind 60", x.takes(0), 60);
        x = Due.told("round 9 1;horse 0 1 5;rider 0 1 0;go 2;");
        due.is("behind 61", x.takes(0), RingRiders.NONE);
        due.allAre("wrong takes", RingRiders.BAD, x.takes(1), x.takes(-1), x.takes(Integer.MAX_VALUE));
        due.is("they count", x.status(0), 3);
        x = Due.told("round 10 1;horse 0 1 0;rider 0 1 0;");
        due.is("behind 10, 20 u is 2, 4", x.takes(0), 20);
        x = Due.told("round 12 1;horse 0 2 4;rider 0 3 0;");
        due.is("behind 12, 24 u is 0, 4", x.takes(0), 24);
    }

    private static void level() {
        RingRiders x = new RingRiders();
        due.is("nobody", x.level(-1), 0);
        due.is("none", x.level(0), -5);
        x = Due.told("round 6 1;horse 1 1 0;horse 3 1 2;horse 4 1 6;rider 0 1 0;rider 0 1 1;rider 0 1 2;"
                + "rider 0 1 3;rider 0 1 4;");
        // High 3, 3, 3, 5, 5.
        int[] pairs = {1, 2, 12, 34};
        due.is("four pairs", x.level(-1), 4);
        for (int k = 0; k < pairs.length; k++) {
            due.is("pair " + k, x.level(k), pairs[k]);
        }
        due.allAre("not so many", -5, x.level(4), x.level(Integer.MAX_VALUE));
        due.allAre("wrong level", -10, x.level(-2), x.level(Integer.MIN_VALUE));
        due.is("they count as BAD", x.status(0), 2);
        // u is 1, 3 and 7: high 4, 6 and 4.
        x.ticks(1);
        due.is("in tick 1", x.level(-1), 2);
        due.is("0 and 2", x.level(0), 2);
        due.is("1 and 4", x.level(1), 14);
        x = Due.told("round 6 1;rider 0 1 0;rider 0 1 1;rider 0 1 2;rider 0 1 3;rider 0 1 4;rider 0 1 5;");
        due.is("fifteen", x.level(-1), 15);
        due.is("the last", x.level(14), 45);
    }

    private static void again() {
        RingRiders x = new RingRiders();
        due.is("4 seats by 1", x.again(), 8);
        x.round(4, 0);
        due.is("4 seats by 0", x.again(), 8);
        x.round(5, 1);
        due.is("5 seats by 1", x.again(), 40);
        x.round(7, 2);
        due.is("7 seats by 2", x.again(), 56);
        x.round(9, 1);
        due.is("9 seats by 1", x.again(), RingRiders.NONE);
        x.round(9, 3);
        due.is("9 seats by 3", x.again(), 24);
        x.round(12, 3);
        due.is("12 seats by 3", x.again(), 8);
        x = Due.told("round 4 1;rider 0 1 0;go 3;");
        due.is("who takes none", x.again(), 8);
        x = Due.told("round 4 1;rider 0 5 0;");
        due.is("who takes one", x.again(), RingRiders.NONE);
        x.ticks(4);
        due.is("who took one", x.again(), 8);
        // With 99 the rings stay, though the ring goes up.
        x = Due.told("round 4 0;rider 2 9 0;");
        for (int k = 0; k < 7; k++) {
            x.hangs(0);
            x.ticks(20);
        }
        x.hangs(0);
        due.is("who has 99", x.again(), 8);
    }

    private static void fast() {
        RingRiders x = Due.told("round 4 1;rider 2 9 1;");
        // Seat 1 is at the post behind 3, 7 .. by 1, behind 1, 5 .. by 3, never by 0 and 2.
        int[][] want = {{1, 3, 1}, {2, 3, 1}, {3, 1, 1}, {4, 1, 1}, {5, 3, 2}, {6, 3, 2}, {7, 1, 2}, {60, 1, 8}};
        for (int[] w : want) {
            due.is("fast(0, " + w[0] + ", 0)", x.fast(0, w[0], 0), w[1]);
            due.is("fast(0, " + w[0] + ", 1)", x.fast(0, w[0], 1), w[2]);
        }
        x = Due.told("round 4 1;rider 0 1 0;");
        due.is("none by any: the least", x.fast(0, 60, 0), 0);
        due.is("none", x.fast(0, 60, 1), 0);
        // The stallion goes higher by more: reach 1, 7 and v behind 4 ticks.
        x = Due.told("round 4 1;horse 0 4 0;rider 0 1 0;ring 11;");
        due.is("by 3 alone", x.fast(0, 4, 0), 3);
        due.is("one", x.fast(0, 4, 1), 1);
        due.allAre("wrong fast", RingRiders.BAD, x.fast(1, 1, 0), x.fast(-1, 1, 0), x.fast(0, 0, 0), x.fast(0, 61, 0),
                x.fast(0, 1, 2), x.fast(0, 1, -1));
        due.is("they count", x.status(0), 6);
    }

    private static void seat() {
        RingRiders x = Due.told("round 4 1;rider 2 9 0;rider 0 1 2;");
        // By 1 seat 3 is at the post behind 1, seat 2 behind 2 (the other is there), seat 1 behind 3, seat 0 behind 4.
        int[][] want = {{1, 3, 1}, {2, 3, 1}, {3, 1, 1}, {4, 0, 1}, {5, 3, 2}, {8, 0, 2}, {60, 0, 8}};
        for (int[] w : want) {
            due.is("seat(0, " + w[0] + ", 0)", x.seat(0, w[0], 0), w[1]);
            due.is("seat(0, " + w[0] + ", 1)", x.seat(0, w[0], 1), w[2]);
        }
        // The child reaches 8 on the cock of phase 4 behind 1 .. 3 alone.
        x = Due.told("round 4 1;horse 1 2 4;rider 0 3 0;");
        due.is("the better horse", x.seat(0, 4, 0), 1);
        due.is("one", x.seat(0, 4, 1), 1);
        // All seats but one's own have others on them.
        x = Due.told("round 4 1;rider 0 1 0;rider 0 1 1;rider 0 1 2;rider 0 1 3;");
        due.is("only one's own", x.seat(2, 9, 0), 2);
        due.is("none", x.seat(2, 9, 1), 0);
        due.allAre("wrong seat", RingRiders.BAD, x.seat(4, 1, 0), x.seat(-1, 1, 0), x.seat(0, 0, 0), x.seat(0, 61, 0),
                x.seat(0, 1, 2), x.seat(0, 1, -1));
        due.is("they count", x.status(0), 6);
    }

    private static void lever() {
        RingRiders x = Due.told("round 4 1;rider 2 9 1;rider 0 1 0;");
        due.is("three away in one", x.lever(0, 1, -1), 1);
        due.is("by 3", x.lever(0, 1, 0), 3);
        due.is("six", x.lever(0, 6, -1), 6);
        int[] row = {3, 0, 0, 0, 0, 0};
        for (int k = 0; k < row.length; k++) {
            due.is("lever(0, 6, " + k + ")", x.lever(0, 6, k), row[k]);
        }
        due.is("one who can't", x.lever(1, 6, -1), 0);
        due.is("the first row", x.lever(1, 6, 5), 0);
        due.allAre("not so many", -5, x.lever(0, 6, 6), x.lever(0, 1, 1), x.lever(0, 1, Integer.MAX_VALUE));
        due.allAre("wrong lever", -10, x.lever(2, 1, -1), x.lever(-1, 1, -1), x.lever(0, 0, -1), x.lever(0, 7, -1),
                x.lever(0, 1, -2), x.lever(0, 1, Integer.MIN_VALUE), x.lever(0, 7, 9));
        due.is("they count as BAD", x.status(0), 7);
    }

    private static void leverRows() {
        // Twelve seats, four away: 0, 1, 3 is the first of the rows of three that come there at the end.
        RingRiders x = Due.told("round 12 1;rider 0 5 8;");
        row(x, 2, 1, 1, 3);
        row(x, 3, 1, 0, 1, 3);
        row(x, 6, 1, 0, 0, 0, 0, 1, 3);
        row(x, 1, 0, 0);
        // The stallion behind 2 ticks is 5 high and v: the ring at 9 wants 3 then, and place 1 less ahead of it.
        x = Due.told("round 12 0;horse 9 4 0;rider 0 1 9;ring 9;");
        row(x, 2, 1, 0, 3);
    }

    private static void row(RingRiders x, int m, int most, int... speeds) {
        due.is("lever of " + m + ": most", x.lever(0, m, -1), most);
        for (int k = 0; k < speeds.length; k++) {
            due.is("lever of " + m + ": " + k, x.lever(0, m, k), speeds[k]);
        }
    }

    private static void nothingIsChanged() {
        RingRiders x = Due.told("round 6 1;horse 0 4 3;rider 2 9 0;rider 5 3 4;rider 3 9 2;ring 3;go 7;");
        x.ticks(3);
        long before = x.digest();
        for (int i = 0; i < 3; i++) {
            x.where(i, 60, 0);
            x.takes(i);
            x.fast(i, 60, 0);
            x.seat(i, 60, 1);
            x.lever(i, 6, 3);
            x.ask(i);
        }
        x.level(0);
        x.again();
        x.hands(0, 1, 0);
        x.evenings(77, 60);
        x.look(0);
        x.tell(0);
        due.is("nothing is changed by these", x.digest(), before);
        due.is("the undone tick", x.undo(), 7);
    }
}
