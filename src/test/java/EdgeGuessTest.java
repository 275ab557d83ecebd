/** The edges of promises 22 to 31: seen, phases, tell, note, mark, forget, is, look, kinds, ask. */
public final class EdgeGuessTest {
    private static final Due due = new Due("EdgeGuessTest");
    private static final Edge fresh = Edge.fresh(due);
    private static final Edge rich = Edge.rich(due);
    private static final String FOUR_RIDE = "round 4 1;rider 0 1 0;rider 0 3 1;rider 0 2 2;rider 0 9 3;";

    public static void main(String[] args) {
        Edge.run(EdgeGuessTest.class);
        due.end();
    }

    @Says({"T: SEEN 0 .. 4, as they come: the HORSE on a SEAT was x (0 .. 15) HIGH in TICK t (0 .. 99) by SPEED v (0 .. 3).",
        "22: SEEN: how many there are."})
    static void seenEdges() {
        due.is("the least", fresh.takes(1, "seen", 0, 0, 0, 0).count(7), 1);
        due.is("the most", fresh.takes(1, "seen", 3, 99, 3, 15).count(7), 1);
        due.is("on SEAT 11", Edge.told(due, "round 12 0;").takes(1, "seen", 11, 99, 3, 15).phases(11), 0);
        int[][] rows = {{3, 99, 3, 15}, {0, 0, 0, 0}, {1, 98, 2, 14}, {2, 1, 1, 1}, {0, 50, 3, 7}};
        RingRiders x = new RingRiders();
        for (int k = 0; k < rows.length; k++) {
            due.is("SEEN " + k, x.seen(rows[k][0], rows[k][1], rows[k][2], rows[k][3]), k + 1);
        }
        due.is("as they come", x.digest(), Due.fold(4, 0, 0, 1, 8, 0, 0, 5, 0, 0, 0, 0, 0, 0, 0, 0, 0, 0, 0, 0,
                3, 99, 3, 15, 0, 0, 0, 0, 1, 98, 2, 14, 2, 1, 1, 1, 0, 50, 3, 7, 0, 1));
        // TICK 99 is u 3 of PHASE 0: 7 HIGH on a gallop is PHASE 1; by 3 a stallion is then 10.
        x = Due.told("round 4 0;horse 0 1 0;horse 1 4 0;");
        x.seen(0, 99, 0, 7);
        x.seen(1, 99, 3, 10);
        due.is("in TICK 99", x.phases(0), 2);
        due.is("in TICK 99 by 3", x.phases(1), 2);
    }

    @Says("22: BAD")
    static void seenRefused() {
        for (Edge some : new Edge[] {fresh, new Edge(due, "five seen", EdgeGuessTest::fiveSeen)}) {
            some.outside("seen", 0, 0, 3, 0, 0, 0, 0).outside("seen", 1, 0, 99, 0, 0, 0, 0)
                    .outside("seen", 2, 0, 3, 0, 0, 0, 0).outside("seen", 3, 0, 15, 0, 0, 0, 0);
        }
        Edge.told(due, "round 12 0;").outside("seen", 0, 0, 11, 0, 0, 0, 0);
    }

    private static RingRiders fiveSeen() {
        RingRiders x = new RingRiders();
        for (int k = 0; k < 5; k++) {
            x.seen(k % 4, k, 0, 3);
        }
        return x;
    }

    @Says("22: FULL: 5.")
    static void seenFull() {
        Edge five = new Edge(due, "five seen", EdgeGuessTest::fiveSeen);
        five.answers(5, "count", 7).refuses(Edge.FULL, "seen", 0, 0, 0, 3).refuses(Edge.FULL, "seen", 3, 99, 3, 15);
        due.is("other rows are not", five.takes(1, "note", 0, 0, 0, 0, 3).count(8), 1);
    }

    @Says({"T: PHASES of a HORSE (bits 0 to 7) by which, its KIND as it is, all SEEN of it are so.", "23: PHASES, as bits."})
    static void phasesEdges() {
        for (int kind = 0; kind <= 5; kind++) {
            Edge.told(due, "round 4 0;horse 3 " + kind + " 2;").answers(255, "phases", 3);
        }
        // 7 HIGH on a gallop is u 4: in TICK t PHASE 4 less t, round and round.
        int[] phaseOf = {4, 3, 2, 1, 0, 7, 6, 5};
        for (int t = 0; t < 8; t++) {
            RingRiders x = Due.told("round 4 3;horse 0 1 6;");
            x.seen(0, t, 0, 7);
            due.is("7 HIGH in TICK " + t, x.phases(0), 1 << phaseOf[t]);
            due.is("another HORSE", x.phases(1), 255);
            x.seen(1, t, 0, 15);
            due.is("what is SEEN of another", x.phases(0), 1 << phaseOf[t]);
            x.seen(0, t, 0, 6);
            due.is("none by which all are so", x.phases(0), 0);
        }
        RingRiders x = fiveSeen();
        due.is("a still one is 3 HIGH by all", x.phases(0), 255);
        x.horse(0, 3, 0);
        due.is("a swan is, by 0", x.phases(0), 255);
        x.horse(0, 5, 0);
        // SEEN in TICKS 0 and 4, 3 HIGH: u 2, 3, 5, 6, and 4 more by 8: 6, 7, 1, 2.
        due.is("a pony", x.phases(0), 4 + 64);
        x.horse(0, 1, 0);
        due.is("a gallop is 3 HIGH once in 8", x.phases(0), 0);
    }

    @Says("23: BAD.")
    static void phasesRefused() {
        fresh.outside("phases", 0, 0, 3, 0);
        rich.outside("phases", 0, 0, 6, 0);
    }

    private static int tellBy(int kind, int... ticksAndHighs) {
        RingRiders x = Due.told("round 4 2;horse 3 " + kind + " 5;");
        for (int k = 0; k < ticksAndHighs.length; k += 2) {
            x.seen(3, ticksAndHighs[k], 0, ticksAndHighs[k + 1]);
        }
        return x.tell(3);
    }

    @Says({"T: TELL for a HORSE: 10 t and v (t 0 .. 7, v 0 .. 3) by which the most of these PHASES by which it is as HIGH are"
        + " fewest; of like ones the least", "24: TELL."})
    static void tellEdges() {
        // Where all TICKS and SPEEDS are alike, the least.
        due.is("still", tellBy(0), 0);
        due.is("a swan", tellBy(3), 0);
        due.is("a gallop, two at most in each", tellBy(1), 0);
        due.is("one PHASE alone", tellBy(1, 0, 7), 0);
        // PHASES 3 and 5 of a gallop are 6 HIGH both in TICK 0, 7 and 5 in TICK 1.
        due.is("a gallop 6 HIGH", tellBy(1, 0, 6), 10);
        due.is("a stallion 6 HIGH", tellBy(4, 0, 6), 10);
        // PHASES 1 .. 4, 0 .. 3 and 3 .. 6 of a cock: two of four are apart in TICKS 1, 2 and 3 first.
        due.is("a cock 5 HIGH in TICK 3", tellBy(2, 3, 5), 10);
        due.is("a cock 3 HIGH in TICK 0", tellBy(2, 0, 3), 20);
        due.is("a cock 5 HIGH in TICK 1", tellBy(2, 1, 5), 30);
        // PHASES 2 and 5 of a pony are 3 HIGH in TICKS 0 and 1, 4 and 2 in TICK 2.
        due.is("a pony 3 HIGH in TICKS 0, 1", tellBy(5, 0, 3, 1, 3), 20);
        Edge.told(due, "round 12 3;horse 11 1 0;").answers(0, "tell", 11).answers(0, "tell", 0);
    }

    @Says({"T: of like ones the least; none: no PHASE.", "24: NONE."})
    static void tellNone() {
        due.is("no PHASE", tellBy(1, 0, 7, 0, 6), Edge.NONE);
        due.is("no such HIGH", tellBy(0, 0, 0), Edge.NONE);
        new Edge(due, "no phase", () -> {
            RingRiders x = new RingRiders();
            x.seen(0, 0, 0, 15);
            return x;
        }).answers(Edge.NONE, "tell", 0).answers(0, "tell", 1).answers(0, "phases", 0);
    }

    @Says("24: BAD.")
    static void tellRefused() {
        fresh.outside("tell", 0, 0, 3, 0);
        rich.outside("tell", 0, 0, 6, 0);
    }

    @Says({"T: NOTES 0 .. 5, as they come: the HORSE on a SEAT, were its PHASE p (0 .. 7), would be x (0 .. 15) HIGH in TICK t"
        + " (0 .. 99) by SPEED v (0 .. 3).", "25: A NOTE: how many there are."})
    static void noteEdges() {
        due.is("the least", fresh.takes(1, "note", 0, 0, 0, 0, 0).count(8), 1);
        due.is("the most", fresh.takes(1, "note", 3, 7, 99, 3, 15).count(8), 1);
        due.is("on SEAT 11", Edge.told(due, "round 12 0;").takes(1, "note", 11, 7, 99, 3, 15).is(11), 0);
        int[][] rows = {{3, 7, 99, 3, 15}, {0, 0, 0, 0, 0}, {1, 6, 98, 2, 14}, {2, 1, 2, 1, 3}, {0, 5, 50, 3, 7},
            {1, 4, 40, 1, 9}};
        RingRiders x = new RingRiders();
        for (int k = 0; k < rows.length; k++) {
            due.is("NOTE " + k, x.note(rows[k][0], rows[k][1], rows[k][2], rows[k][3], rows[k][4]), k + 1);
        }
        due.is("as they come", x.digest(), Due.fold(4, 0, 0, 1, 8, 0, 0, 0, 6, 0, 0, 0, 0, 0, 0, 0, 0, 0, 0, 0,
                3, 7, 99, 3, 15, 0, 0, 0, 0, 0, 1, 6, 98, 2, 14, 2, 1, 2, 1, 3, 0, 5, 50, 3, 7, 1, 4, 40, 1, 9, 0, 1));
    }

    private static RingRiders sixNotes() {
        RingRiders x = new RingRiders();
        for (int k = 0; k < 6; k++) {
            x.note(k % 4, k, 0, 0, 3);
        }
        return x;
    }

    @Says("25: BAD")
    static void noteRefused() {
        for (Edge some : new Edge[] {fresh, new Edge(due, "six notes", EdgeGuessTest::sixNotes)}) {
            some.outside("note", 0, 0, 3, 0, 0, 0, 0, 0).outside("note", 1, 0, 7, 0, 0, 0, 0, 0)
                    .outside("note", 2, 0, 99, 0, 0, 0, 0, 0).outside("note", 3, 0, 3, 0, 0, 0, 0, 0)
                    .outside("note", 4, 0, 15, 0, 0, 0, 0, 0);
        }
        rich.outside("note", 0, 0, 6, 0, 0, 0, 0, 0);
    }

    @Says("25: FULL: 6.")
    static void noteFull() {
        Edge six = new Edge(due, "six notes", EdgeGuessTest::sixNotes);
        six.answers(6, "count", 8).refuses(Edge.FULL, "note", 0, 0, 0, 0, 3).refuses(Edge.FULL, "note", 3, 7, 99, 3, 15);
        due.is("other rows are not", six.takes(1, "seen", 0, 0, 0, 3).count(7), 1);
    }

    @Says({"T: IS: KINDS (bits) of HORSES by which all NOTES of one are so.", "28: IS, as bits."})
    static void isEdges() {
        fresh.answers(63, "is", 0).answers(63, "is", 3);
        // At u 4 by 1 the KINDS 0 .. 5 are 3, 7, 5, 2, 8, 4 HIGH; u 4 is PHASE 7 in TICK 93, too.
        int[] highs = {3, 7, 5, 2, 8, 4};
        for (int kind = 0; kind < 6; kind++) {
            RingRiders x = new RingRiders();
            x.note(0, 4, 0, 1, highs[kind]);
            x.note(3, 7, 93, 1, highs[kind]);
            due.is("KIND " + kind, x.is(0), 1 << kind);
            due.is("KIND " + kind + " in TICK 93", x.is(3), 1 << kind);
            due.is("another HORSE", x.is(1), 63);
            x.note(0, 4, 0, 1, 9);
            due.is("none by which all are so", x.is(0), 0);
            due.is("what is noted of another", x.is(3), 1 << kind);
        }
        // PHASE 7 in TICK 99 by 3 is u 2: 3, 5, 3, 0, 8, 3.
        due.is("0 HIGH by 3", noted(7, 99, 3, 0), 8);
        due.is("3 HIGH by 3", noted(7, 99, 3, 3), 1 + 4 + 32);
        due.is("15 HIGH", noted(7, 99, 3, 15), 0);
    }

    private static int noted(int p, int t, int v, int high) {
        RingRiders x = new RingRiders();
        x.note(0, p, t, v, high);
        return x.is(0);
    }

    @Says("28: BAD.")
    static void isRefused() {
        fresh.outside("is", 0, 0, 3, 0);
        rich.outside("is", 0, 0, 6, 0);
    }

    @Says({"T: LOOK: 10 u and v (TICK u 0 .. 7, v 0 .. 3), PHASE as it is, by which the most of these KINDS that are as HIGH are"
        + " fewest; of like ones the least", "29: LOOK."})
    static void lookEdges() {
        // All six are apart at u 4 by 1 (3, 7, 5, 2, 8, 4) and at u 7 by 2 (3, 4, 5, 1, 6, 2), and nowhere ahead of these.
        int[] looks = {41, 31, 21, 11, 1, 22, 12, 2};
        for (int phase = 0; phase < 8; phase++) {
            Edge.told(due, "round 4 0;horse 3 0 " + phase + ";").answers(looks[phase], "look", 3);
        }
        RingRiders x = new RingRiders();
        x.note(0, 4, 0, 1, 3);
        due.is("one KIND alone: the least", x.look(0), 0);
        // Still and cock, 3 HIGH at u 1 by 1, are apart from u 4 on.
        x.note(1, 1, 0, 1, 3);
        due.is("still and cock", x.is(1), 1 + 4);
        due.is("in TICK 4", x.look(1), 40);
        x.horse(1, 0, 3);
        due.is("of PHASE 3 in TICK 1", x.look(1), 10);
    }

    @Says({"T: 10 u and v (TICK u 0 .. 7, v 0 .. 3), PHASE as it is, by which the most of these KINDS that are as HIGH are fewest;"
        + " of like ones the least; none: no KIND.", "29: NONE."})
    static void lookNone() {
        new Edge(due, "no kind", () -> {
            RingRiders x = new RingRiders();
            x.note(0, 0, 0, 0, 15);
            return x;
        }).answers(Edge.NONE, "look", 0).answers(0, "is", 0).answers(41, "look", 1);
    }

    @Says("29: BAD.")
    static void lookRefused() {
        fresh.outside("look", 0, 0, 3, 0);
        rich.outside("look", 0, 0, 6, 0);
    }

    @Says({"T: MARKS 0 .. 5, as they come: a RIDER of ARM a (1 .. 9), HIGH by h (0 .. 15), having r (0 .. 99) RINGS, REACHED x"
        + " (0 .. 60).", "26: A MARK: how many there are."})
    static void markEdges() {
        Edge four = Edge.told(due, FOUR_RIDE);
        due.is("the least", four.takes(1, "mark", 0, 1, 0, 0, 0).count(9), 1);
        due.is("the most", four.takes(1, "mark", 3, 9, 15, 99, 60).count(9), 1);
        int[][] rows = {{3, 9, 15, 99, 60}, {0, 1, 0, 0, 0}, {1, 8, 14, 98, 59}, {2, 2, 1, 1, 1}, {3, 5, 7, 50, 30},
            {0, 4, 3, 2, 1}};
        RingRiders x = Due.typed(Due.told("round 4 0;rider 0 1 0;rider 0 1 1;rider 0 1 2;rider 0 1 3;"), "");
        for (int k = 0; k < rows.length; k++) {
            due.is("MARK " + k, x.mark(rows[k][0], rows[k][1], rows[k][2], rows[k][3], rows[k][4]), k + 1);
        }
        due.is("as they come", x.digest(), Due.fold(4, 4, 0, 0, 8, 0, 0, 0, 0, 6, 0, 0, 0, 0, 0, 0, 0, 0, 0, 0,
                0, 1, 0, 0, 0, 1, 1, 0, 0, 1, 2, 0, 0, 1, 3, 0,
                3, 9, 15, 99, 60, 0, 1, 0, 0, 0, 1, 8, 14, 98, 59, 2, 2, 1, 1, 1, 3, 5, 7, 50, 30, 0, 4, 3, 2, 1, 0, 1));
    }

    private static RingRiders sixMarks() {
        RingRiders x = Due.told(FOUR_RIDE);
        for (int k = 0; k < 6; k++) {
            x.mark(k % 4, 1, k, 0, k + 1);
        }
        return x;
    }

    @Says("26: BAD")
    static void markRefused() {
        fresh.refuses(Edge.BAD, "mark", 0, 1, 0, 0, 0);
        for (Edge some : new Edge[] {Edge.told(due, FOUR_RIDE), new Edge(due, "six marks", EdgeGuessTest::sixMarks)}) {
            some.outside("mark", 0, 0, 3, 0, 1, 0, 0, 0).outside("mark", 1, 1, 9, 0, 1, 0, 0, 0)
                    .outside("mark", 2, 0, 15, 0, 1, 0, 0, 0).outside("mark", 3, 0, 99, 0, 1, 0, 0, 0)
                    .outside("mark", 4, 0, 60, 0, 1, 0, 0, 0);
        }
    }

    @Says("26: FULL: 6.")
    static void markFull() {
        Edge six = new Edge(due, "six marks", EdgeGuessTest::sixMarks);
        six.answers(6, "count", 9).refuses(Edge.FULL, "mark", 0, 1, 0, 0, 1).refuses(Edge.FULL, "mark", 3, 9, 15, 99, 60);
        due.is("other rows are not", six.takes(1, "seen", 0, 0, 0, 3).count(7), 1);
    }

    private static int marked(int a, int h, int r, int reached) {
        RingRiders x = Due.told(FOUR_RIDE);
        x.mark(3, a, h, r, reached);
        return x.kinds(3);
    }

    @Says({"T: WHAT: KINDS of RIDERS (bits) by which all MARKS of one are so.", "30: WHAT, as bits."})
    static void kindsEdges() {
        Edge.told(due, FOUR_RIDE).answers(63, "kinds", 0).answers(63, "kinds", 3);
        // Of ARM 5, 4 HIGH, the KINDS 0 .. 5 REACH 9, 4, 12, 4, 12, 18 with no RING, 9, 4, 12, 5, 11, 9 with one.
        int[][] alone = {{0, 9}, {1, 4}, {1, 12}, {1, 5}, {1, 11}, {0, 18}};
        for (int kind = 0; kind < 6; kind++) {
            due.is("KIND " + kind, marked(5, 4, alone[kind][0], alone[kind][1]), 1 << kind);
        }
        // Of ARM 9, 15 HIGH, with 99: 24, 12, 27, 17, 0, 24; with none: 24, 12, 27, 12, 27, 48.
        due.is("the tired with 99", marked(9, 15, 99, 0), 16);
        due.is("the bride with 99", marked(9, 15, 99, 17), 8);
        due.is("the greedy with 99", marked(9, 15, 99, 24), 1 + 32);
        due.is("the greedy with none", marked(9, 15, 0, 48), 32);
        due.is("60", marked(9, 15, 0, 60), 0);
        // Of ARM 1, 0 HIGH, with none: 1, 0, 4, 0, 4, 2.
        due.is("0 of ARM 1", marked(1, 0, 0, 0), 2 + 8);
        RingRiders x = Due.told(FOUR_RIDE);
        x.mark(1, 5, 4, 1, 4);
        x.mark(2, 5, 4, 0, 18);
        due.is("each by one's own", x.kinds(1), 2);
        due.is("each by one's own, too", x.kinds(2), 32);
        due.is("who has none", x.kinds(0), 63);
        x.mark(1, 5, 4, 1, 5);
        due.is("none by which all are so", x.kinds(1), 0);
    }

    @Says("30: BAD.")
    static void kindsRefused() {
        fresh.refuses(Edge.BAD, "kinds", 0);
        rich.outside("kinds", 0, 0, 2, 0);
    }

    @Says({"T: ASK: 10 h and r (h 0 .. 10, r 0 .. 9), ARM as it is, by which the most of these KINDS that REACH as high are"
        + " fewest; of like ones the least", "31: ASK."})
    static void askEdges() {
        // With 3 RINGS of ARM 1, 0 HIGH, child, tired and greedy REACH 1. Of ARM 3 they are 3, 6, 6 at 0 with none, the
        // greedy is as the child with any, and at 1 with none they are 4, 7, 8; of ARM 2 they are 2, 5, 4 at once.
        RingRiders x = Due.told(FOUR_RIDE);
        x.mark(1, 1, 0, 3, 1);
        x.mark(2, 1, 0, 3, 1);
        due.is("child, tired, greedy", x.kinds(1), 1 + 16 + 32);
        due.is("of ARM 3", x.ask(1), 10);
        due.is("of ARM 2", x.ask(2), 0);
        // Sailor and tired, aunt and bride, are apart with one RING.
        x.mark(3, 5, 4, 0, 12);
        due.is("sailor and tired", x.kinds(3), 4 + 16);
        due.is("with one", x.ask(3), 1);
        // All of ARM 1 at 0 with none: 1, 0, 4, 0, 4, 2, two alike; more are never apart.
        due.is("all", x.ask(0), 0);
        x.mark(0, 5, 4, 0, 18);
        due.is("one KIND alone: the least", x.ask(0), 0);
    }

    @Says({"T: ARM as it is, by which the most of these KINDS that REACH as high are fewest; of like ones the least; none: no KIND.",
        "31: NONE."})
    static void askNone() {
        new Edge(due, "no kind", () -> {
            RingRiders x = Due.told(FOUR_RIDE);
            x.mark(0, 1, 0, 0, 60);
            return x;
        }).answers(Edge.NONE, "ask", 0).answers(0, "kinds", 0);
    }

    @Says("31: BAD.")
    static void askRefused() {
        fresh.refuses(Edge.BAD, "ask", 0);
        rich.outside("ask", 0, 0, 2, 0);
    }

    private static RingRiders allFull() {
        RingRiders x = sixMarks();
        for (int k = 0; k < 6; k++) {
            x.seen(0, k, 0, 3);
            x.note(0, 0, k, 0, 3);
        }
        return x;
    }

    @Says("27: No SEEN ones (0), NOTES (1), MARKS (2): how many there were.")
    static void forgetEdges() {
        int[] were = {5, 6, 6};
        for (int what = 0; what < 3; what++) {
            fresh.answers(0, "forget", what);
            RingRiders x = new Edge(due, "all full", EdgeGuessTest::allFull).takes(were[what], "forget", what);
            for (int other = 0; other < 3; other++) {
                due.is("behind forget(" + what + "): count(" + (7 + other) + ")", x.count(7 + other),
                        other == what ? 0 : were[other]);
            }
            due.is("none are left", x.forget(what), 0);
            int comes = what == 0 ? x.seen(1, 0, 0, 3) : what == 1 ? x.note(1, 0, 0, 0, 3) : x.mark(1, 1, 1, 1, 1);
            due.is("there is room again", comes, 1);
        }
        RingRiders x = allFull();
        x.forget(0);
        x.forget(1);
        x.forget(2);
        due.is("of all PHASES", x.phases(0), 255);
        due.is("of all KINDS", x.is(0), 63);
        due.is("of all KINDS of RIDERS", x.kinds(0), 63);
    }

    @Says("27: BAD.")
    static void forgetRefused() {
        fresh.outside("forget", 0, 0, 2, 0);
        rich.outside("forget", 0, 0, 2, 0);
        new Edge(due, "all full", EdgeGuessTest::allFull).outside("forget", 0, 0, 2, 0);
    }
}
