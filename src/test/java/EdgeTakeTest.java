/** The edges of promises 15 to 21: where, takes, level, again, fast, seat, lever. */
public final class EdgeTakeTest {
    private static final Due due = new Due("EdgeTakeTest");
    private static final Edge fresh = Edge.fresh(due);
    private static final Edge rich = Edge.rich(due);
    // SEAT 0 of 9 is at the POST in TICKS 9 k by 1; on its gallop one of ARM 1 REACHES 8 there in TICK 63 alone.
    private static final String LATE = "round 9 1;horse 0 1 5;rider 0 1 0;go ";
    private static final String LEVEL_SIX =
            "round 6 1;rider 0 1 0;rider 0 1 1;rider 0 1 2;rider 0 1 3;rider 0 1 4;rider 0 1 5;";

    public static void main(String[] args) {
        Edge.run(EdgeTakeTest.class);
        due.end();
    }

    @Says("T: (Nothing is changed by these")
    static void nothingIsChanged() {
        for (int i = 0; i < 3; i++) {
            rich.leaves("where", i, 60, 0).leaves("where", i, 0, 1).leaves("takes", i).leaves("fast", i, 60, 0)
                    .leaves("seat", i, 60, 1).leaves("lever", i, 6, 5).leaves("kinds", i).leaves("ask", i);
        }
        for (int s = 0; s < 7; s++) {
            rich.leaves("phases", s).leaves("tell", s).leaves("is", s).leaves("look", s);
        }
        rich.leaves("level", 0).leaves("level", 99).leaves("again").leaves("hands", 0, 1, 0).leaves("hands", 2, 0, 99)
                .leaves("evenings", 77, 60).leaves("lever", 0, 1, 1);
    }

    /** Nobody has taken the RING at 8 that the next of the riders REACHES in TICK 10000, where u is 4, not in TICK 9999. */
    private static RingRiders atTheLastTick() {
        RingRiders x = EdgeTickTest.at(9999, "round 4 1;horse 0 2 4;horse 1 2 4;rider 0 3 0;rider 0 3 1;");
        x.hangs(8);
        return x;
    }

    @Says("T: TICKS go beyond 9999 in them.)")
    static void beyondTheLastTick() {
        // ANGLE is 3: RIDER 1 is at the POST, RIDER 0 comes there by 1.
        Edge last = new Edge(due, "at 9999", EdgeTakeTest::atTheLastTick);
        last.answers(3, "where", 0, 0, 1).answers(5, "where", 0, 1, 1).answers(0, "where", 0, 1, 0)
                .answers(5, "where", 0, 60, 1).answers(3, "where", 0, 60, 0);
        last.answers(1, "takes", 0).answers(Edge.NONE, "takes", 1).answers(Edge.NONE, "again");
        last.answers(1, "fast", 0, 1, 0).answers(1, "fast", 0, 1, 1).answers(0, "fast", 1, 1, 0)
                .answers(1, "fast", 1, 1, 1);
        last.answers(0, "seat", 0, 1, 0).answers(1, "seat", 0, 1, 1);
        last.answers(1, "lever", 0, 1, Edge.NONE).answers(1, "lever", 0, 1, 0).answers(0, "lever", 1, 1, 0);
        // RIDER 0 takes 0, 1, 0, 1 by SPEEDS 0 .. 3, RIDER 1 1, 0, 1, 0; were nothing taken, 0 and 0 alone would rest.
        last.answers(2, "hands", 0, 1, Edge.NONE).answers(0, "hands", 0, 1, 0).answers(20, "hands", 0, 1, 1);
        last.answers(1, "evenings", 0, 1);
        due.is("the chance", last.takes(1, "slip", 0, 1, 1, 0).part(0), 1);
        new Edge(due, "nobody at 9999", () -> EdgeTickTest.at(9999, "round 4 1;")).answers(8, "again");
    }

    @Says({"T: WHERE: the PLACE of a RIDER, HIGH: how HIGH, behind m (0 .. 60) TICKS.", "15: WHERE (what 0), HIGH (1)."})
    static void whereEdges() {
        // ANGLE is 12 by 7, 5; SEAT 6 is at PLACE 4; u is 4 and 5 by 8, 1; 60 by 3 is 180, 5 by 7; u is then 5.
        Edge told = Edge.told(due, "round 7 3;horse 6 4 5;rider 0 9 0;rider 0 1 6;go 4;");
        told.answers(4, "where", 1, 0, 0).answers(7, "where", 1, 0, 1);
        told.answers(0, "where", 1, 1, 0).answers(8, "where", 1, 1, 1);
        told.answers(6, "where", 1, 59, 0).answers(10, "where", 1, 59, 1);
        told.answers(2, "where", 1, 60, 0).answers(9, "where", 1, 60, 1);
        told.answers(5, "where", 0, 0, 0).answers(3, "where", 0, 60, 0).answers(3, "where", 0, 60, 1);
    }

    @Says("15: BAD.")
    static void whereRefused() {
        rich.outside("where", 0, 0, 2, 0, 0, 0).outside("where", 1, 0, 60, 0, 0, 0).outside("where", 2, 0, 1, 0, 0, 0)
                .outside("where", 1, 0, 60, 2, 0, 1).outside("where", 2, 0, 1, 2, 60, 0);
    }

    @Says({"T: TAKES: behind how many TICKS (1 .. 60) a RIDER takes a RING first; none.", "16: TAKES. NONE."})
    static void takesEdges() {
        Edge.told(due, LATE + "62;").answers(1, "takes", 0);
        Edge.told(due, LATE + "61;").answers(2, "takes", 0);
        Edge.told(due, LATE + "4;").answers(59, "takes", 0);
        Edge.told(due, LATE + "3;").answers(60, "takes", 0);
        Edge.told(due, LATE + "2;").answers(Edge.NONE, "takes", 0);
        // It has been taken, and hangs at 9.
        Edge.told(due, LATE + "63;").answers(Edge.NONE, "takes", 0);
        // What was taken now is not to come.
        Edge.told(due, "round 4 0;rider 0 5 0;go 1;").answers(Edge.NONE, "takes", 0);
        // Others take first, and have it hang higher.
        Edge.told(due, "round 4 1;rider 0 5 2;rider 0 5 3;").answers(Edge.NONE, "takes", 0).answers(1, "takes", 1);
        Edge.told(due, "round 4 1;rider 0 6 2;rider 0 5 3;").answers(2, "takes", 0).answers(1, "takes", 1);
    }

    @Says("16: BAD.")
    static void takesRefused() {
        fresh.refuses(Edge.BAD, "takes", 0);
        rich.outside("takes", 0, 0, 2, 0);
    }

    @Says({"T: LEVEL: pairs 10 i and j (i less than j) of RIDERS who are equally HIGH now: how many; the k-th (rising).",
        "17: LEVEL: how many (k = NONE), the k-th."})
    static void levelEdges() {
        fresh.answers(0, "level", Edge.NONE);
        Edge.told(due, "round 4 1;rider 0 1 0;").answers(0, "level", Edge.NONE);
        Edge.told(due, "round 4 1;rider 0 1 3;rider 0 1 0;").answers(1, "level", Edge.NONE).answers(1, "level", 0);
        Edge.told(due, "round 4 1;horse 1 5 0;rider 0 1 0;rider 0 1 1;").answers(0, "level", Edge.NONE);
        int[] pairs = {1, 2, 3, 4, 5, 12, 13, 14, 15, 23, 24, 25, 34, 35, 45};
        Edge six = Edge.told(due, LEVEL_SIX);
        six.answers(15, "level", Edge.NONE);
        for (int k = 0; k < pairs.length; k++) {
            six.answers(pairs[k], "level", k);
        }
        // Two gallops of one PHASE are level; of PHASES beside one another one is now as HIGH as the other a TICK later.
        Edge.told(due, "round 4 1;horse 0 1 0;horse 1 1 0;rider 0 1 0;rider 0 1 1;").answers(1, "level", Edge.NONE);
        Edge.told(due, "round 4 1;horse 0 1 0;horse 1 1 1;rider 0 1 0;rider 0 1 1;").answers(0, "level", Edge.NONE);
        Edge.told(due, "round 4 1;horse 0 1 1;horse 1 1 0;rider 0 1 0;rider 0 1 1;").answers(0, "level", Edge.NONE);
        // It is HIGH that is equal, not how far one REACHES; now, not in TICK 0.
        Edge.told(due, "round 4 1;horse 1 1 0;rider 2 9 0;rider 0 1 1;rider 0 1 2;go 1;").answers(1, "level", Edge.NONE)
                .answers(2, "level", 0);
    }

    @Says("17: -5: not so many.")
    static void levelNotSoMany() {
        fresh.answers(Edge.NOT_SO_MANY, "level", 0).answers(Edge.NOT_SO_MANY, "level", Integer.MAX_VALUE);
        Edge.told(due, LEVEL_SIX).answers(Edge.NOT_SO_MANY, "level", 15).answers(Edge.NOT_SO_MANY, "level", 16)
                .answers(Edge.NOT_SO_MANY, "level", Integer.MAX_VALUE);
    }

    @Says("17: BAD: -10.")
    static void levelRefused() {
        for (Edge some : new Edge[] {fresh, rich}) {
            some.refusesBy(Edge.BAD_OF_LIST, Edge.BAD, "level", -2).refusesBy(Edge.BAD_OF_LIST, Edge.BAD, "level", -5)
                    .refusesBy(Edge.BAD_OF_LIST, Edge.BAD, "level", Integer.MIN_VALUE);
        }
    }

    @Says({"T: AGAIN: behind how many TICKS (1 .. 60) ANGLE and the TICK by 8 left over are as now first, RINGS of all, too;"
        + " none.", "18: AGAIN. NONE."})
    static void againEdges() {
        // SEATS, then for each SPEED the first of 8, 16, 24, .. behind which ANGLE is as now; 72 and 88 are beyond 60.
        int[][] want = {{4, 8, 8, 8, 8}, {5, 8, 40, 40, 40}, {6, 8, 24, 24, 8}, {7, 8, 56, 56, 56}, {8, 8, 8, 8, 8},
            {9, 8, Edge.NONE, Edge.NONE, 24}, {10, 8, 40, 40, 40}, {11, 8, Edge.NONE, Edge.NONE, Edge.NONE},
            {12, 8, 24, 24, 8}};
        for (int[] w : want) {
            for (int v = 0; v <= 3; v++) {
                Edge.told(due, "round " + w[0] + " " + v + ";").answers(w[1 + v], "again");
                Edge.told(due, "round " + w[0] + " " + v + ";go 13;").answers(w[1 + v], "again");
            }
        }
        // RINGS of all: the last RIDER takes one in TICK 8, or none in 8 TICKS; what has been taken does not matter.
        Edge.told(due, "round 8 1;rider 0 1 1;rider 0 5 0;").answers(Edge.NONE, "again");
        Edge.told(due, "round 8 1;rider 0 1 1;rider 0 4 0;").answers(8, "again");
        Edge.told(due, "round 8 1;rider 0 1 1;rider 0 5 0;go 8;").answers(8, "again");
        // It would be behind 24, but for the RING that is taken in TICK 12.
        Edge.told(due, "round 9 3;horse 0 1 0;rider 0 1 0;").answers(Edge.NONE, "again");
        // Of six the last one takes, or nobody does.
        String six = "round 8 1;rider 0 1 1;rider 0 1 2;rider 0 1 3;rider 0 1 4;rider 0 1 5;";
        Edge.told(due, six + "rider 0 5 0;").answers(Edge.NONE, "again");
        Edge.told(due, six + "rider 0 4 0;").answers(8, "again");
    }

    @Says({"T: FAST for a RIDER and m (1 .. 60): the SPEED (0 .. 3), kept, by which one takes most RINGS in m TICKS; of like"
        + " ones the least; how many.", "19: FAST: the SPEED (0), how many (1)."})
    static void fastEdges() {
        // SEAT 0 of 4 is at the POST in each TICK by 0; SEAT 3 behind one by 1, SEAT 2 by 2, SEAT 1 by 3.
        for (int v = 0; v <= 3; v++) {
            Edge.told(due, "round 4 1;rider 2 9 " + (4 - v) % 4 + ";").answers(v, "fast", 0, 1, 0).answers(1, "fast", 0, 1, 1);
        }
        // By 1 in the 60th TICK, by 2 in TICK 15, by 3 in TICK 23: one each, of like ones the least.
        Edge late = Edge.told(due, LATE + "3;");
        late.answers(1, "fast", 0, 60, 0).answers(1, "fast", 0, 60, 1);
        late.answers(2, "fast", 0, 59, 0).answers(1, "fast", 0, 59, 1);
        late.answers(2, "fast", 0, 12, 0).answers(0, "fast", 0, 11, 0).answers(0, "fast", 0, 11, 1);
        // There is no SPEED 4, by which SEAT 8 of 12 would come.
        Edge.told(due, "round 12 1;rider 2 9 8;").answers(0, "fast", 0, 1, 0).answers(0, "fast", 0, 1, 1);
        // None by any: the least.
        Edge.told(due, "round 4 3;rider 0 1 0;").answers(0, "fast", 0, 60, 0).answers(0, "fast", 0, 60, 1);
        // Sixty RINGS in 60 TICKS are not to be had: the sailor's are 8 .. 15, by 0.
        Edge.told(due, "round 4 3;rider 2 9 0;").answers(0, "fast", 0, 60, 0).answers(8, "fast", 0, 60, 1);
    }

    @Says("19: BAD.")
    static void fastRefused() {
        fresh.refuses(Edge.BAD, "fast", 0, 1, 0);
        rich.outside("fast", 0, 0, 2, 0, 1, 0).outside("fast", 1, 1, 60, 0, 1, 0).outside("fast", 2, 0, 1, 0, 1, 0)
                .outside("fast", 1, 1, 60, 2, 1, 1).outside("fast", 2, 0, 1, 2, 60, 0);
    }

    @Says({"T: SEAT for a RIDER and m: the SEAT, on which nobody else is, by which one, sitting there from now on, takes most"
        + " RINGS in m TICKS; of like ones the least; how many.", "20: SEAT: which (0), how many (1)."})
    static void seatEdges() {
        // SEAT 1 of 9 is at the POST in TICKS 9 k less 1; on its gallop of PHASE 6 8 is REACHED in TICK 62 alone.
        Edge late = Edge.told(due, "round 9 1;horse 1 1 6;rider 0 1 2;go 2;");
        late.answers(1, "seat", 0, 60, 0).answers(1, "seat", 0, 60, 1);
        late.answers(0, "seat", 0, 59, 0).answers(0, "seat", 0, 59, 1);
        // By 1 of 12 SEAT 11 comes first: in one TICK it is the only one, in two SEAT 10 is as good and less.
        Edge twelve = Edge.told(due, "round 12 1;rider 2 9 0;");
        twelve.answers(11, "seat", 0, 1, 0).answers(1, "seat", 0, 1, 1).answers(10, "seat", 0, 2, 0);
        twelve.answers(0, "seat", 0, 12, 0).answers(1, "seat", 0, 12, 1).answers(11, "seat", 0, 13, 0);
        // Where somebody else is, one does not sit, be it the best; one's own may be it.
        Edge two = Edge.told(due, "round 4 0;rider 2 9 1;rider 2 9 0;");
        two.answers(1, "seat", 0, 9, 0).answers(0, "seat", 0, 9, 1).answers(0, "seat", 1, 9, 0).answers(8, "seat", 1, 9, 1);
        Edge none = Edge.told(due, "round 4 0;rider 0 1 0;rider 0 1 1;rider 0 1 2;rider 0 1 3;");
        for (int i = 0; i < 4; i++) {
            none.answers(i, "seat", i, 60, 0).answers(0, "seat", i, 60, 1);
        }
        // The least on which nobody else is, where none takes any.
        Edge.told(due, "round 4 0;rider 0 1 3;rider 0 1 0;rider 0 1 1;").answers(2, "seat", 0, 1, 0);
    }

    @Says("20: BAD.")
    static void seatRefused() {
        fresh.refuses(Edge.BAD, "seat", 0, 1, 0);
        rich.outside("seat", 0, 0, 2, 0, 1, 0).outside("seat", 1, 1, 60, 0, 1, 0).outside("seat", 2, 0, 1, 0, 1, 0)
                .outside("seat", 1, 1, 60, 2, 1, 1).outside("seat", 2, 0, 1, 2, 60, 0);
    }

    private static void lever(String text, int m, int most, int... speeds) {
        Edge told = Edge.told(due, text);
        told.answers(most, "lever", 0, m, Edge.NONE);
        for (int k = 0; k < speeds.length; k++) {
            told.answers(speeds[k], "lever", 0, m, k);
        }
        told.answers(Edge.NOT_SO_MANY, "lever", 0, m, speeds.length);
    }

    @Says({"T: LEVER for a RIDER and m (1 .. 6): SPEEDS, told anew ahead of each of m TICKS, by which one takes most RINGS: how"
        + " many; the k-th SPEED of the first such row (rising).", "21: LEVER: how many (k = NONE), the k-th SPEED."})
    static void leverEdges() {
        lever("round 4 1;rider 2 9 1;", 1, 1, 3);
        lever("round 4 1;rider 2 9 0;", 1, 1, 0);
        lever("round 5 1;rider 2 9 1;", 1, 0, 0);
        lever("round 12 1;rider 2 9 8;", 1, 0, 0);
        lever("round 4 1;rider 2 9 0;", 6, 6, 0, 0, 0, 0, 0, 0);
        lever("round 4 1;rider 0 1 0;", 6, 0, 0, 0, 0, 0, 0, 0);
        // On a gallop of PHASE 6 one of ARM 1 REACHES 8 in TICK 6 alone, three away from the POST.
        lever("round 12 0;horse 9 1 6;rider 0 1 9;", 6, 1, 0, 0, 0, 0, 0, 3);
        lever("round 12 0;horse 9 1 6;rider 0 1 9;", 5, 0, 0, 0, 0, 0, 0);
        // Eleven away: 2 and thrice 3, the first of the rows that come there, late ones ahead of early ones.
        lever("round 12 0;rider 0 5 1;", 4, 1, 2, 3, 3, 3);
        lever("round 12 0;rider 0 5 1;", 6, 1, 0, 0, 2, 3, 3, 3);
        lever("round 12 0;rider 0 5 1;", 3, 0, 0, 0, 0);
        // The sailor takes one more in each TICK that is left, standing there.
        lever("round 12 0;rider 2 9 1;", 6, 3, 2, 3, 3, 3, 0, 0);
        // A swan that is fast is low: of ARM 5 7 is REACHED by 1 or 0, 8 by 0 alone; three away in two TICKS.
        lever("round 12 0;horse 9 3 0;rider 0 5 9;ring 7;", 3, 2, 2, 1, 0);
        lever("round 12 0;horse 9 3 0;rider 0 5 9;ring 8;", 6, 1, 0, 0, 0, 0, 3, 0);
    }

    @Says("T: by which one takes most RINGS: how many; the k-th SPEED of the first such row (rising).")
    static void leverOfOthers() {
        // RIDER 0 on SEAT 3 is one away, RIDER 1 on SEAT 1 three, RIDER 2 on SEAT 2 two: each has a row of one's own, and
        // what was asked ahead of it does not matter.
        RingRiders x = Due.told("round 4 1;rider 2 9 3;rider 2 9 1;rider 2 9 2;rider 0 1 0;");
        int[] away = {1, 3, 2, 0};
        int[] most = {2, 2, 2, 0};
        for (int again = 0; again < 2; again++) {
            for (int i = 0; i < 4; i++) {
                due.is("most of RIDER " + i, x.lever(i, 2, Edge.NONE), most[i]);
                due.is("SPEED 0 of RIDER " + i, x.lever(i, 2, 0), away[i]);
                due.is("SPEED 1 of RIDER " + i, x.lever(i, 2, 1), 0);
            }
        }
    }

    @Says("21: -5: not so many.")
    static void leverNotSoMany() {
        for (int m = 1; m <= 6; m++) {
            rich.leaves("lever", 0, m, m - 1).answers(Edge.NOT_SO_MANY, "lever", 0, m, m)
                    .answers(Edge.NOT_SO_MANY, "lever", 2, m, Integer.MAX_VALUE);
            int last = Edge.richOne().lever(0, m, m - 1);
            due.holds("a SPEED, " + last + ", is the last of " + m, last >= 0 && last <= 3);
        }
    }

    @Says("21: BAD: -10.")
    static void leverRefused() {
        rich.outsideBy(Edge.BAD_OF_LIST, "lever", 0, 0, 2, 0, 1, Edge.NONE)
                .outsideBy(Edge.BAD_OF_LIST, "lever", 1, 1, 6, 0, 1, Edge.NONE)
                .outsideBy(Edge.BAD_OF_LIST, "lever", 1, 1, 6, 2, 1, 0);
        rich.refusesBy(Edge.BAD_OF_LIST, Edge.BAD, "lever", 0, 1, -2)
                .refusesBy(Edge.BAD_OF_LIST, Edge.BAD, "lever", 0, 6, Integer.MIN_VALUE)
                .refusesBy(Edge.BAD_OF_LIST, Edge.BAD, "lever", 0, 7, 7)
                .refusesBy(Edge.BAD_OF_LIST, Edge.BAD, "lever", 3, 1, 1);
    }
}
