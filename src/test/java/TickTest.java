/** Promises 8 to 14: ticks, speed, changes, hangs, undo, of, about. */
public final class TickTest {
    private static final Due due = new Due("TickTest");
    private static final int[] GALLOP = {3, 4, 5, 6, 7, 6, 5, 4};
    private static final int[] PONY = {2, 2, 3, 3, 4, 3, 3, 2};

    public static void main(String[] args) {
        ticksTurn();
        ticksTakeRings();
        ringsEnd();
        lastTick();
        speed();
        changes();
        hangs();
        undoGoesBack();
        undoKeepsEight();
        undoEnds();
        of();
        riderKinds();
        about();
        horseKinds();
        due.end();
    }

    private static void ticksTurn() {
        RingRiders x = new RingRiders();
        due.is("ticks(1)", x.ticks(1), 1);
        due.is("ticks(2)", x.ticks(2), 3);
        due.is("ticks(60)", x.ticks(60), 3);
        due.is("the tick", x.count(5), 63);
        due.is("three that may be undone", x.count(10), 3);
        due.allAre("wrong ticks", RingRiders.BAD, x.ticks(0), x.ticks(61), x.ticks(-1), x.ticks(Integer.MAX_VALUE),
                x.ticks(Integer.MIN_VALUE));
        due.is("they count", x.status(0), 5);
        due.is("they change nothing", x.count(5), 63);
        x.round(5, 3);
        due.is("by 3 of 5", x.ticks(2), 1);
        x.round(12, 0);
        due.is("by 0", x.ticks(9), 0);
        due.is("the tick goes by", x.count(5), 9);
    }

    private static void ticksTakeRings() {
        // On a gallop the child reaches 1 and 4 in tick 1, but 1 and 3 in tick 0.
        RingRiders x = Due.told("round 4 0;horse 0 1 0;rider 0 1 0;ring 5;");
        x.ticks(1);
        due.is("by how high it is in that tick", x.of(0, 3), 1);
        due.is("the ring hangs 1 higher", x.count(4), 6);
        x.ticks(1);
        due.is("as high as the ring is enough", x.of(0, 3), 2);
        // Seat 1 is at the post in ticks 3, 7, ..; seat 3 in ticks 1, 5, ..
        x = Due.told("round 4 1;rider 0 5 1;rider 0 6 3;");
        x.ticks(1);
        due.is("seat 3 in tick 1", x.of(1, 3), 1);
        due.is("the ring hangs at 9", x.count(4), 9);
        x.ticks(2);
        due.is("8 is not 9", x.of(0, 3), 0);
        x.ticks(2);
        due.is("9 is 9", x.of(1, 3), 2);
        due.is("rings of all", x.count(6), 2);
        // The speed of that tick makes the swan low: 3 less 3, and the stallion high: 3 and 1 and 3.
        x = Due.told("round 4 3;horse 1 3 0;rider 0 8 1;go 1;");
        due.is("on a swan by 3 the child reaches 8", x.of(0, 3), 1);
        x = Due.told("round 4 3;horse 1 4 0;rider 0 1 1;go 1;");
        due.is("on a stallion by 3 the child reaches 8", x.of(0, 3), 1);
        x = Due.told("round 4 3;horse 1 4 0;rider 0 1 1;ring 9;go 1;");
        due.is("and not 9", x.of(0, 3), 0);
    }

    private static void ringsEnd() {
        RingRiders x = Due.told("round 4 0;rider 5 9 0;ring 20;");
        x.ticks(1);
        due.is("the greedy reaches 24 with none", x.of(0, 3), 1);
        due.is("20 at most", x.count(4), 20);
        // A sailor takes at 0 to 15, sixteen each time that it is hung at 0.
        x = Due.told("round 4 0;rider 2 9 0;");
        for (int k = 1; k <= 8; k++) {
            x.hangs(0);
            x.ticks(20);
            due.is("rings of " + k, x.of(0, 3), Math.min(99, 16 * k));
            due.is("the ring of " + k, x.count(4), 16);
        }
        x.hangs(7);
        x.ticks(1);
        due.is("99 at most", x.of(0, 3), 99);
        due.is("the ring goes up all the same", x.count(4), 8);
        x.undo();
        due.is("undone", x.count(4), 7);
    }

    private static void lastTick() {
        RingRiders x = new RingRiders();
        for (int k = 0; k < 166; k++) {
            x.ticks(60);
        }
        due.is("9960", x.count(5), 9960);
        due.is("39 are left", x.ticks(60), 3);
        due.is("9999", x.count(5), 9999);
        due.is("none at 9999", x.ticks(60), 3);
        due.is("9999 still", x.count(5), 9999);
        x.rider(0, 5, 0);
        due.is("beyond it: where", x.where(0, 1, 0), 0);
        due.is("beyond it: takes", x.takes(0), 1);
        due.is("beyond it: again", x.again(), RingRiders.NONE);
        due.is("nothing is changed", x.count(5), 9999);
        x.ticks(1);
        due.is("nobody takes at 9999", x.of(0, 3), 0);
    }

    private static void speed() {
        RingRiders x = new RingRiders();
        due.is("speed(3)", x.speed(3), 1);
        due.is("speed(3) again", x.speed(3), RingRiders.NO);
        due.is("speed(0)", x.speed(0), 3);
        due.is("it is 0", x.count(3), 0);
        due.allAre("wrong speed", RingRiders.BAD, x.speed(-1), x.speed(4), x.speed(Integer.MAX_VALUE));
        due.is("two that may be undone", x.count(10), 2);
        due.is("BAD", x.status(0), 3);
        due.is("NO", x.status(1), 1);
    }

    private static void changes() {
        RingRiders x = Due.told("round 5 1;rider 0 1 0;rider 0 1 4;");
        due.is("changes(0, 2)", x.changes(0, 2), 0);
        due.is("the seat", x.of(0, 2), 2);
        due.is("nobody is on the old one", x.about(0, 3), RingRiders.NONE);
        due.is("on the new one", x.about(2, 3), 0);
        due.is("to one's own", x.changes(0, 2), RingRiders.NO);
        due.is("to another's", x.changes(0, 4), RingRiders.NO);
        due.allAre("wrong change", RingRiders.BAD, x.changes(2, 1), x.changes(-1, 1), x.changes(0, 5), x.changes(0, -1));
        due.is("BAD ahead of NO", x.changes(2, 4), RingRiders.BAD);
        due.is("BAD", x.status(0), 5);
        due.is("NO", x.status(1), 2);
        due.is("one may be undone", x.count(10), 1);
    }

    private static void hangs() {
        RingRiders x = new RingRiders();
        due.is("hangs(0)", x.hangs(0), 8);
        due.is("hangs(20)", x.hangs(20), 0);
        due.is("hangs(20) again", x.hangs(20), RingRiders.NO);
        due.is("it hangs at 20", x.count(4), 20);
        due.allAre("wrong ring", RingRiders.BAD, x.hangs(-1), x.hangs(21), x.hangs(Integer.MIN_VALUE));
        due.is("two may be undone", x.count(10), 2);
    }

    private static void undoGoesBack() {
        RingRiders x = Due.told("round 4 1;rider 2 9 0;rider 0 1 1;go 2;");
        long[] before = new long[5];
        before[0] = x.digest();
        x.ticks(10);
        before[1] = x.digest();
        x.speed(3);
        before[2] = x.digest();
        x.changes(1, 3);
        before[3] = x.digest();
        x.hangs(4);
        before[4] = x.digest();
        x.ticks(3);
        x.image(0);
        due.is("rings were taken", x.count(6) > 2 ? 1 : 0, 1);
        int[] ticks = {2, 12, 12, 12, 12};
        for (int k = 4; k >= 0; k--) {
            due.is("undo " + k, x.undo(), ticks[k]);
            due.is("all as ahead of it " + k, x.digest(), before[k]);
        }
        due.is("no more", x.undo(), RingRiders.NO);
        due.is("it counts", x.status(1), 1);
    }

    private static void undoKeepsEight() {
        RingRiders x = new RingRiders();
        for (int k = 1; k <= 11; k++) {
            x.ticks(1);
            due.is("may be undone " + k, x.count(10), Math.min(k, 8));
        }
        for (int k = 10; k >= 3; k--) {
            due.is("back to " + k, x.undo(), k);
        }
        due.is("eight at most", x.undo(), RingRiders.NO);
        due.is("tick 3", x.count(5), 3);
    }

    private static void undoEnds() {
        RingRiders x = new RingRiders();
        x.ticks(1);
        x.seen(0, 0, 0, 3);
        x.note(0, 0, 0, 0, 3);
        due.is("seen and noted ones may not be undone", x.undo(), 0);
        due.is("they stay", x.count(7) + x.count(8), 2);
        x.speed(2);
        x.horse(1, 1, 1);
        due.is("not behind a horse", x.undo(), RingRiders.NO);
        x.speed(3);
        x.rider(0, 1, 0);
        due.is("not behind a rider", x.undo(), RingRiders.NO);
        x.speed(1);
        x.round(4, 0);
        due.is("not behind a round", x.undo(), RingRiders.NO);
    }

    private static void of() {
        RingRiders x = Due.told("round 6 2;horse 4 1 1;rider 4 7 4;ring 0;go 4;");
        // Angle 8 by 6 is 2; seat 4 is at place 0 in ticks 1 and 4; u is 5 then, so high 3 and 3.
        int[] want = {4, 7, 4, 2, 0, 6, 14};
        for (int what = 0; what < want.length; what++) {
            due.is("of(0, " + what + ")", x.of(0, what), want[what]);
        }
        due.allAre("wrong of", RingRiders.BAD, x.of(1, 0), x.of(-1, 0), x.of(0, 7), x.of(0, -1),
                x.of(Integer.MAX_VALUE, 0), x.of(0, Integer.MIN_VALUE));
        due.is("they count", x.status(0), 6);
    }

    /** Rings are had by seat 0 at the post; then the ring hangs out of reach. */
    private static int reach(int kind, int arm, int rings) {
        RingRiders x = Due.told("round 4 0;rider " + kind + " " + arm + " 0;");
        for (int k = 0; k < rings; k++) {
            x.hangs(0);
            x.ticks(1);
        }
        if (x.of(0, 3) != rings) {
            return Integer.MIN_VALUE;
        }
        return x.of(0, 6);
    }

    private static void riderKinds() {
        due.is("child", reach(0, 9, 0), 12);
        due.is("child with rings", reach(0, 1, 3), 4);
        due.is("aunt", reach(1, 9, 0), 6);
        due.is("aunt, cut", reach(1, 4, 2), 3);
        due.is("sailor", reach(2, 9, 7), 15);
        due.is("bride", reach(3, 9, 0), 6);
        due.is("bride with 4", reach(3, 4, 4), 7);
        due.is("bride with 5", reach(3, 4, 5), 8);
        due.is("bride with 6", reach(3, 4, 6), 8);
        due.is("tired", reach(4, 1, 0), 7);
        due.is("tired with 6", reach(4, 1, 6), 1);
        due.is("tired with 7", reach(4, 1, 7), 0);
        due.is("tired with 12", reach(4, 1, 12), 0);
        due.is("greedy", reach(5, 9, 0), 24);
        due.is("greedy with 1", reach(5, 9, 1), 12);
        due.is("greedy with 2", reach(5, 9, 2), 12);
    }

    private static void about() {
        RingRiders x = Due.told("round 5 1;horse 4 2 3;rider 0 1 3;rider 0 1 4;go 1;");
        due.is("kind", x.about(4, 0), 2);
        due.is("phase", x.about(4, 1), 3);
        due.is("high", x.about(4, 2), 5);
        due.is("who", x.about(4, 3), 1);
        due.is("nobody", x.about(0, 3), RingRiders.NONE);
        due.allAre("wrong about", RingRiders.BAD, x.about(5, 0), x.about(-1, 0), x.about(0, 4), x.about(0, -1));
        due.is("they count", x.status(0), 4);
    }

    private static void horseKinds() {
        for (int v = 0; v <= 3; v++) {
            for (int p = 0; p <= 7; p++) {
                RingRiders x = new RingRiders();
                x.round(6, v);
                for (int kind = 0; kind <= 5; kind++) {
                    x.horse(kind, kind, p);
                }
                for (int t = 0; t <= 11; t++) {
                    int u = (t + p) % 8;
                    String at = " (v " + v + ", p " + p + ", t " + t + ")";
                    due.is("still" + at, x.about(0, 2), 3);
                    due.is("gallop" + at, x.about(1, 2), GALLOP[u]);
                    due.is("cock" + at, x.about(2, 2), u < 4 ? 3 : 5);
                    due.is("swan" + at, x.about(3, 2), 3 - v);
                    due.is("stallion" + at, x.about(4, 2), GALLOP[u] + v);
                    due.is("pony" + at, x.about(5, 2), PONY[u]);
                    x.ticks(1);
                }
            }
        }
    }
}
