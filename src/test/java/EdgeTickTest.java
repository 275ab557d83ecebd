/** The edges of promises 8 to 14: ticks, speed, changes, hangs, undo, of, about. */
public final class EdgeTickTest {
    private static final Due due = new Due("EdgeTickTest");
    private static final Edge fresh = Edge.fresh(due);
    private static final Edge rich = Edge.rich(due);

    public static void main(String[] args) {
        Edge.run(EdgeTickTest.class);
        due.end();
    }

    @Says({"8: n TICKS (1 .. 60", "8: the ANGLE then.", "T: A TICK: its number is one more"})
    static void ticksEdges() {
        due.is("one", fresh.takes(1, "ticks", 1).count(5), 1);
        // 60 by 1 of 4 seats, and 60 by 3 of 11: 180 is 16 times 11 and 4.
        due.is("sixty", fresh.takes(0, "ticks", 60).count(5), 60);
        due.is("sixty of 11 by 3", Edge.told(due, "round 11 3;").takes(4, "ticks", 60).count(5), 60);
    }

    @Says("8: BAD.")
    static void ticksRefused() {
        fresh.outside("ticks", 0, 1, 60, 0);
        rich.outside("ticks", 0, 1, 60, 0);
        new Edge(due, "at 9999", () -> at(9999, "round 5 1;rider 2 9 1;")).outside("ticks", 0, 1, 60, 0);
    }

    @Says("8: together one that may be undone")
    static void ticksTogether() {
        RingRiders x = fresh.takes(0, "ticks", 60);
        due.is("one that may be undone", x.count(10), 1);
        due.is("back ahead of all 60", x.undo(), 0);
        due.is("no more of them", x.undo(), Edge.NO);
    }

    /** The state of a text, so many TICKS on, by 60 and less at once. */
    static RingRiders at(int tick, String text) {
        RingRiders x = Due.told(text);
        for (int left = tick - x.count(5); left > 0; left -= 60) {
            x.ticks(Math.min(60, left));
        }
        return x;
    }

    @Says({"8: at 9999 none", "T: TICKS have numbers, 0 at first (9999 at most)."})
    static void lastTick() {
        // By 1 of 5 seats SEAT 1 is at the POST in TICKS 4, 9, .., 9999.
        RingRiders x = at(9998, "round 5 1;rider 2 9 1;");
        x.hangs(0);
        int had = x.of(0, 3);
        due.is("one of sixty", x.ticks(60), 4);
        due.is("TICK 9999", x.count(5), 9999);
        due.is("a RING is taken in it", x.of(0, 3), had + 1);
        due.is("it hangs 1 higher", x.count(4), 1);
        due.is("none of one", x.ticks(1), 4);
        due.is("none of sixty", x.ticks(60), 4);
        due.is("TICK 9999 still", x.count(5), 9999);
        due.is("none is taken", x.of(0, 3), had + 1);
        due.is("it hangs as it hung", x.count(4), 1);
        due.is("not refused", x.status(0) + x.status(1) + x.status(2), 0);
        x = at(9997, "round 5 1;rider 2 9 1;");
        due.is("two of two", x.ticks(2), 4);
        due.is("up to 9999", x.count(5), 9999);
        due.is("they may be undone", x.undo(), 9997);
        due.is("and go by again", x.ticks(3), 4);
    }

    @Says({"T: ANGLE (0 .. N less 1; 0 at first): SEAT s is at PLACE (s and ANGLE) by N left over; the POST is at PLACE 0.",
        "T: ANGLE is SPEED further, round and round"})
    static void roundAndRound() {
        for (int n = 4; n <= 12; n++) {
            for (int v = 0; v <= 3; v++) {
                RingRiders x = Due.told("round " + n + " " + v + ";rider 2 9 " + (n - 1) + ";rider 0 1 0;");
                int angle = 0;
                int place = n - 1;
                for (int k = 1; k <= 2 * n; k++) {
                    angle = angle + v >= n ? angle + v - n : angle + v;
                    place = place + v >= n ? place + v - n : place + v;
                    String at = n + " seats by " + v + ", tick " + k;
                    x.hangs(5);
                    int had = x.of(0, 3);
                    due.is(at + ": ANGLE", x.ticks(1), angle);
                    due.is(at + ": count(2)", x.count(2), angle);
                    due.is(at + ": PLACE of the last SEAT", x.of(0, 4), place);
                    due.is(at + ": PLACE of SEAT 0", x.of(1, 4), angle);
                    due.is(at + ": who is at the POST takes", x.of(0, 3) - had, place == 0 ? 1 : 0);
                }
            }
        }
    }

    @Says({"T: if a RIDER is at the POST then and REACHES (by how HIGH the HORSE is in that TICK) as high as THE RING hangs,"
        + " or higher"})
    static void asHighOrHigher() {
        // By 0 the child with ARM 4 on a gallop of PHASE 0 is 4 HIGH in TICK 1, so that it REACHES 8.
        for (int ring = 0; ring <= 20; ring++) {
            RingRiders x = Due.told("round 4 0;horse 0 1 0;rider 0 4 0;ring " + ring + ";");
            due.is("REACHES in TICK 0", x.of(0, 6), 7);
            x.ticks(1);
            due.is("REACHES in TICK 1", x.of(0, 6), 8);
            due.is("THE RING at " + ring, x.of(0, 3), ring <= 8 ? 1 : 0);
        }
        // By 1 of 4 SEAT 3 is at the POST in TICK 1, those beside it are not; nor does it matter who is nowhere.
        for (int s = 0; s < 4; s++) {
            due.is("on " + s, Due.told("round 4 1;ring 0;rider 2 9 " + s + ";go 1;").of(0, 3), s == 3 ? 1 : 0);
        }
        due.is("nobody at the POST", Due.told("round 4 1;ring 0;go 9;").count(4), 0);
    }

    @Says({"T: RINGS are one more (99 at most)", "T: RINGS (0 .. 99; 0 at first)"})
    static void ninetyNine() {
        // The sailor REACHES 15; hung at 0, it is taken in each of 14 TICKS.
        RingRiders x = Due.told("round 4 0;rider 2 9 0;");
        for (int k = 1; k <= 7; k++) {
            x.hangs(0);
            x.ticks(14);
            due.is("of " + 14 * k, x.of(0, 3), 14 * k);
        }
        x.hangs(0);
        x.ticks(1);
        due.is("the 99th", x.of(0, 3), 99);
        due.is("it hangs 1 higher", x.count(4), 1);
        x.ticks(1);
        due.is("there is no 100th", x.of(0, 3), 99);
        due.is("of all together", x.count(6), 99);
        x.undo();
        x.undo();
        due.is("98 again", x.of(0, 3), 98);
    }

    @Says({"T: THE RING hangs 1 higher (20 at most)", "T: THE RING hangs at 0 .. 20 (8 at first)"})
    static void twenty() {
        // The greedy one with ARM 9 REACHES 24 without a RING, as three do one behind the other.
        String text = "round 4 1;rider 5 9 3;rider 5 9 2;rider 5 9 1;ring 18;";
        int[] hangs = {18, 19, 20, 20};
        for (int k = 1; k <= 3; k++) {
            RingRiders x = Due.told(text);
            x.ticks(k);
            due.is("behind " + k, x.count(4), hangs[k]);
            due.is("RINGS behind " + k, x.count(6), k);
        }
        due.is("from 0", Due.told("round 4 0;rider 0 1 0;ring 0;go 1;").count(4), 1);
    }

    private static int high(int kind, int phase, int tick, int speed) {
        RingRiders x = Due.told("round 4 " + speed + ";horse 1 " + kind + " " + phase + ";");
        if (tick > 0) {
            x.ticks(tick);
        }
        return x.about(1, 2);
    }

    private static void highs(int kind, int speed, int... byU) {
        for (int u = 0; u < 8; u++) {
            String of = "kind " + kind + " by " + speed + ", u " + u;
            due.is(of + " by its TICK", high(kind, 0, u, speed), byU[u]);
            due.is(of + " by its PHASE", high(kind, u, 0, speed), byU[u]);
            due.is(of + " 8 TICKS later", high(kind, u, 8, speed), byU[u]);
            // 7 and 57 and u is 64 and u: beyond 8 more than once.
            due.is(of + " by both", high(kind, 7, 57 + u > 60 ? 49 + u : 57 + u, speed), byU[u]);
        }
    }

    @Says("T: (u is t and p by 8 left over)")
    static void leftOver() {
        due.is("7 and 0", high(1, 7, 0, 0), 4);
        due.is("7 and 1 is 0", high(1, 7, 1, 0), 3);
        due.is("7 and 2 is 1", high(1, 7, 2, 0), 4);
        due.is("0 and 8 is 0", high(1, 0, 8, 0), 3);
        due.is("4 and 60 is 0", high(2, 4, 60, 0), 3);
        due.is("7 and 60 is 3", high(2, 7, 60, 0), 3);
        due.is("0 and 60 is 4", high(2, 0, 60, 0), 5);
        due.is("in TICK 9999, 7 and 0", at(9999, "round 4 0;horse 0 1 0;").about(0, 2), 4);
        due.is("in TICK 9999, 7 and 5 is 4", at(9999, "round 4 0;horse 0 1 5;").about(0, 2), 7);
    }

    @Says({"T: 0 STILL: 3.", "T: STILL, and u, if u is 4 or less, else 8 less u.", "T: STILL, 2 more, if u is 4 or more.",
        "T: STILL less v.", "T: 4 STALLION (under GALLOP): GALLOP and v.", "T: half (cut up) of GALLOP."})
    static void horses() {
        for (int v = 0; v <= 3; v++) {
            highs(0, v, 3, 3, 3, 3, 3, 3, 3, 3);
            highs(1, v, 3, 4, 5, 6, 7, 6, 5, 4);
            highs(2, v, 3, 3, 3, 3, 5, 5, 5, 5);
            highs(3, v, 3 - v, 3 - v, 3 - v, 3 - v, 3 - v, 3 - v, 3 - v, 3 - v);
            highs(4, v, 3 + v, 4 + v, 5 + v, 6 + v, 7 + v, 6 + v, 5 + v, 4 + v);
            highs(5, v, 2, 2, 3, 3, 4, 3, 3, 2);
        }
        due.is("a swan by 3 is 0 HIGH", high(3, 0, 0, 3), 0);
        due.is("a stallion at most", high(4, 4, 0, 3), 10);
    }

    /** How high one REACHES on a still horse with so many RINGS, each taken from 0 at the POST. */
    private static void reaches(int kind, int arm, int rings, int want) {
        RingRiders x = Due.told("round 4 0;rider " + kind + " " + arm + " 0;");
        for (int k = 0; k < rings; k++) {
            x.hangs(0);
            x.ticks(1);
        }
        due.is("RINGS of kind " + kind, x.of(0, 3), rings);
        due.is("kind " + kind + " of ARM " + arm + " with " + rings, x.of(0, 6), want);
    }

    @Says("T: half (cut) of CHILD.")
    static void aunts() {
        reaches(1, 1, 0, 2);
        reaches(1, 2, 0, 2);
        reaches(1, 3, 0, 3);
        reaches(1, 8, 0, 5);
        reaches(1, 9, 0, 6);
        reaches(1, 9, 7, 6);
    }

    @Says("T: AUNT and r, 5 more at most.")
    static void brides() {
        for (int rings = 0; rings <= 5; rings++) {
            reaches(3, 4, rings, 3 + rings);
        }
        reaches(3, 4, 6, 8);
        reaches(3, 9, 99, 11);
    }

    @Says("T: SAILOR less r, 0 at least.")
    static void tired() {
        reaches(4, 1, 0, 7);
        reaches(4, 1, 6, 1);
        reaches(4, 1, 7, 0);
        reaches(4, 1, 8, 0);
        reaches(4, 9, 15, 0);
        reaches(4, 9, 14, 1);
        reaches(4, 9, 99, 0);
    }

    @Says({"T: twice CHILD, if r is 0, else as CHILD.", "T: 3 more than CHILD."})
    static void greedyAndSailors() {
        reaches(5, 1, 0, 8);
        reaches(5, 9, 0, 24);
        reaches(5, 9, 1, 12);
        reaches(5, 9, 99, 12);
        reaches(0, 9, 0, 12);
        reaches(0, 9, 99, 12);
        reaches(2, 9, 0, 15);
        reaches(2, 9, 99, 15);
    }

    @Says("9: SPEED is told: which it was.")
    static void speedEdges() {
        for (int v : new int[] {0, 2, 3}) {
            RingRiders x = fresh.takes(1, "speed", v);
            due.is("SPEED " + v, x.count(3), v);
            due.is("which it was", x.speed(1), v);
            due.is("two may be undone", x.count(10), 2);
        }
    }

    @Says("9: BAD")
    static void speedRefused() {
        fresh.outside("speed", 0, 0, 3, 0);
        rich.outside("speed", 0, 0, 3, 0);
    }

    @Says("9: NO: it is so.")
    static void speedAsItIs() {
        fresh.refuses(Edge.NO, "speed", 1);
        rich.refuses(Edge.NO, "speed", 1);
        for (int v = 0; v <= 3; v++) {
            Edge.told(due, "round 4 " + v + ";").refuses(Edge.NO, "speed", v);
        }
    }

    @Says("10: A RIDER changes to a SEAT: which it was.")
    static void changesEdges() {
        // RIDERS 0, 1, 2 are on SEATS 0, 4, 5 of 7.
        int[][] changes = {{0, 6, 0}, {2, 1, 5}, {1, 3, 4}};
        for (int[] c : changes) {
            RingRiders x = rich.takes(c[2], "changes", c[0], c[1]);
            due.is("who is there", x.about(c[1], 3), c[0]);
            due.is("the SEAT", x.of(c[0], 2), c[1]);
            due.is("who is there no more", x.about(c[2], 3), Edge.NONE);
            due.is("it may be undone", x.count(10), 6);
            due.is("and back", x.changes(c[0], c[2]), c[1]);
        }
        due.is("RIDER 5 to SEAT 11", Edge.told(due, "round 12 0;rider 0 1 0;rider 0 1 1;rider 0 1 2;rider 0 1 3;rider 0 1 4;"
                + "rider 0 1 5;").takes(5, "changes", 5, 11).of(5, 2), 11);
    }

    @Says("10: BAD")
    static void changesRefused() {
        fresh.refuses(Edge.BAD, "changes", 0, 0);
        rich.outside("changes", 0, 0, 2, 0, 6).outside("changes", 1, 0, 6, 0, 0);
        // The first of BAD, NO.
        rich.refuses(Edge.BAD, "changes", 3, 0).refuses(Edge.BAD, "changes", -1, 5);
    }

    @Says("10: NO: somebody is there (oneself, too).")
    static void changesToATakenSeat() {
        rich.refuses(Edge.NO, "changes", 0, 4).refuses(Edge.NO, "changes", 0, 5).refuses(Edge.NO, "changes", 2, 0);
        rich.refuses(Edge.NO, "changes", 0, 0).refuses(Edge.NO, "changes", 1, 4).refuses(Edge.NO, "changes", 2, 5);
    }

    @Says("11: THE RING is hung at x (0 .. 20): where it hung.")
    static void hangsEdges() {
        due.is("at 0", fresh.takes(8, "hangs", 0).count(4), 0);
        due.is("at 20", fresh.takes(8, "hangs", 20).count(4), 20);
        RingRiders x = fresh.takes(8, "hangs", 20);
        due.is("from 20", x.hangs(0), 20);
        due.is("from 0", x.hangs(1), 0);
        due.is("three may be undone", x.count(10), 3);
    }

    @Says("11: BAD")
    static void hangsRefused() {
        fresh.outside("hangs", 0, 0, 20, 0);
        rich.outside("hangs", 0, 0, 20, 0);
    }

    @Says("11: NO: it is there.")
    static void hangsAsItHangs() {
        fresh.refuses(Edge.NO, "hangs", 8);
        rich.refuses(Edge.NO, "hangs", 6);
        Edge.told(due, "round 4 0;ring 0;").refuses(Edge.NO, "hangs", 0);
        Edge.told(due, "round 4 0;ring 20;").refuses(Edge.NO, "hangs", 20);
    }

    @Says({"T: UNDO: ANGLE, SPEED, RINGS, SEATS of RIDERS, how high THE RING hangs, the TICK as ahead of the last TICKS gone"
        + " by, SPEED told, RIDER that changed the SEAT, RING hung", "12: UNDO: the TICK then."})
    static void undoOfEach() {
        String text = "round 5 1;rider 2 9 4;rider 2 9 3;go 2;";
        RingRiders x = Due.told(text);
        long before = x.digest();
        int[][] calls = {{0, 7}, {1, 3}, {2, 0}, {3, 0}};
        for (int[] c : calls) {
            switch (c[0]) {
                case 0 -> x.ticks(c[1]);
                case 1 -> x.speed(c[1]);
                case 2 -> x.changes(0, c[1]);
                default -> x.hangs(c[1]);
            }
            due.is("one that may be undone, of " + c[0], x.count(10), 1);
            due.holds("something is changed by " + c[0], x.digest() != before);
            due.is("undone is " + c[0], x.undo(), 2);
            due.is("all is as ahead of " + c[0], x.digest(), before);
            due.is("no more behind " + c[0], x.undo(), Edge.NO);
        }
        // What came between stays: SEEN, NOTES, MARKS, THE TEXT, THE FRACTION.
        x.ticks(1);
        x.seen(0, 0, 0, 3);
        x.note(0, 0, 0, 0, 3);
        x.mark(0, 1, 1, 1, 1);
        x.slip(0, 0, 0, 0);
        x.type(33);
        due.is("undone", x.undo(), 2);
        due.is("SEEN, NOTES, MARKS stay", x.count(7) + x.count(8) + x.count(9), 3);
        due.is("THE TEXT stays", x.count(11), text.length() + 1);
        due.is("THE FRACTION stays", x.part(0), 1);
    }

    @Says("12: NO: none may be.")
    static void undoOfNone() {
        fresh.refuses(Edge.NO, "undo");
        Edge.told(due, "round 5 1;rider 2 9 4;go 9;").refuses(Edge.NO, "undo");
        new Edge(due, "all undone", () -> {
            RingRiders x = new RingRiders();
            x.ticks(1);
            x.speed(3);
            x.undo();
            x.undo();
            return x;
        }).refuses(Edge.NO, "undo");
    }

    @Says("T: (8 at most;")
    static void undoOfEight() {
        for (int changes = 1; changes <= 20; changes++) {
            RingRiders x = new RingRiders();
            for (int k = 1; k <= changes; k++) {
                x.ticks(1);
            }
            int most = Math.min(changes, 8);
            due.is("may be undone of " + changes, x.count(10), most);
            for (int k = 1; k <= most; k++) {
                due.is("undo " + k + " of " + changes, x.undo(), changes - k);
                due.is("left behind it", x.count(10), most - k);
            }
            due.is("no more of " + changes, x.undo(), Edge.NO);
            due.is("the TICK stays", x.count(5), changes - most);
        }
        // Of each kind together: the oldest, the speed, is the one that is lost.
        RingRiders x = Due.told("round 4 0;rider 0 1 0;");
        x.speed(3);
        x.hangs(1);
        x.changes(0, 1);
        x.ticks(2);
        x.hangs(9);
        x.changes(0, 2);
        x.ticks(2);
        x.hangs(1);
        x.changes(0, 3);
        int[] ticks = {4, 4, 2, 2, 2, 0, 0, 0};
        for (int k = 0; k < 8; k++) {
            due.is("undo " + k, x.undo(), ticks[k]);
        }
        due.is("no more", x.undo(), Edge.NO);
        due.is("the ring as at first", x.count(4), 8);
        due.is("the seat as at first", x.of(0, 2), 0);
        due.is("the speed as told", x.count(3), 3);
    }

    @Says("T: behind a HORSE told, a RIDER that comes none may be)")
    static void undoOfNoneBehind() {
        due.is("behind a HORSE", rich.takes(1, "horse", 0, 1, 3).count(10), 0);
        due.is("behind a RIDER", rich.takes(3, "rider", 0, 1, 6).count(10), 0);
        RingRiders x = Edge.richOne();
        x.horse(0, 1, 3);
        due.is("not behind a HORSE", x.undo(), Edge.NO);
        x.ticks(1);
        due.is("what comes behind it may", x.count(10), 1);
        x.rider(0, 1, 6);
        due.is("not behind a RIDER", x.undo(), Edge.NO);
        x.speed(3);
        due.is("what comes behind that may", x.undo(), 13);
    }

    @Says("13: Of a RIDER: KIND (0), ARM (1), SEAT (2), RINGS (3), PLACE now (4), HIGH now (5), how high one REACHES now (6).")
    static void ofEdges() {
        // ANGLE 9 by 4 is 1: SEAT 3 is at PLACE 0, in TICKS 1, 5 and 9; of PHASE 2 a stallion by 1 is 7, 5 and 7 HIGH
        // there (u is 3, 7, 3), so that one of ARM 2 REACHES 9, 7 and 9: 8 and 9 are taken, at 10 it is left.
        Edge told = Edge.told(due, "round 4 1;horse 3 4 2;rider 0 1 0;rider 0 2 3;go 9;");
        int[] want = {0, 2, 3, 2, 0, 7, 9};
        for (int what = 0; what < want.length; what++) {
            told.answers(want[what], "of", 1, what);
        }
        int[] other = {0, 1, 0, 0, 1, 3, 4};
        for (int what = 0; what < other.length; what++) {
            told.answers(other[what], "of", 0, what);
        }
        due.is("RIDER 5", Due.told("round 6 0;rider 0 1 0;rider 0 1 1;rider 0 1 2;rider 0 1 3;rider 0 1 4;rider 4 7 5;")
                .of(5, 1), 7);
    }

    @Says("13: BAD.")
    static void ofRefused() {
        fresh.refuses(Edge.BAD, "of", 0, 0);
        rich.outside("of", 0, 0, 2, 0, 0).outside("of", 0, 0, 2, 0, 6).outside("of", 1, 0, 6, 0, 0)
                .outside("of", 1, 0, 6, 2, 0);
        Edge.told(due, "round 6 0;rider 0 1 0;rider 0 1 1;rider 0 1 2;rider 0 1 3;rider 0 1 4;rider 4 7 5;")
                .outside("of", 0, 0, 5, 0, 0);
    }

    @Says("14: Of a SEAT: KIND of the HORSE (0), PHASE (1), HIGH now (2), who is on it (3; NONE).")
    static void aboutEdges() {
        Edge told = Edge.told(due, "round 12 2;horse 0 5 7;horse 11 3 1;rider 0 1 11;rider 0 1 0;go 1;");
        int[] first = {5, 7, 2, 1};
        int[] last = {3, 1, 1, 0};
        int[] empty = {0, 0, 3, Edge.NONE};
        for (int what = 0; what < 4; what++) {
            told.answers(first[what], "about", 0, what).answers(last[what], "about", 11, what)
                    .answers(empty[what], "about", 10, what);
        }
    }

    @Says("14: BAD.")
    static void aboutRefused() {
        fresh.outside("about", 0, 0, 3, 0, 0).outside("about", 1, 0, 3, 0, 0);
        rich.outside("about", 0, 0, 6, 0, 3).outside("about", 1, 0, 3, 6, 0);
    }
}
