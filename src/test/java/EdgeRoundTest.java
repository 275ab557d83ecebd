/** The edges of promises 1 to 6: a new object, round, horse, rider, type, clear. */
public final class EdgeRoundTest {
    private static final Due due = new Due("EdgeRoundTest");
    private static final Edge fresh = Edge.fresh(due);
    private static final Edge rich = Edge.rich(due);
    private static final String SIX = "rider 0 1 0;rider 1 2 1;rider 2 3 2;rider 3 4 3;rider 4 5 4;rider 5 6 5;";

    public static void main(String[] args) {
        Edge.run(EdgeRoundTest.class);
        due.end();
    }

    @Says("1: As told; nobody rides.")
    static void nobodyRides() {
        fresh.answers(0, "count", 1).answers(0, "count", 6).answers(0, "level", Edge.NONE);
        for (int s = 0; s < 4; s++) {
            fresh.answers(Edge.NONE, "about", s, 3);
        }
        // There is no RIDER 0 yet, and there is one as soon as one comes.
        fresh.refuses(Edge.BAD, "of", 0, 0).refuses(Edge.BAD, "where", 0, 0, 0).refuses(Edge.BAD, "takes", 0)
                .refuses(Edge.BAD, "fast", 0, 1, 0).refuses(Edge.BAD, "seat", 0, 1, 0).refuses(Edge.BAD, "kinds", 0)
                .refuses(Edge.BAD, "ask", 0).refuses(Edge.BAD, "mark", 0, 1, 0, 0, 1)
                .refuses(Edge.BAD, "slip", 0, 0, 0, 0).refuses(Edge.BAD, "changes", 0, 0)
                .refusesBy(Edge.BAD_OF_LIST, Edge.BAD, "lever", 0, 1, Edge.NONE)
                .refusesBy(Edge.BAD_OF_LIST, Edge.BAD, "hands", 0, 1, Edge.NONE);
        due.is("the one who comes then", fresh.takes(0, "rider", 3, 4, 2).of(0, 0), 3);
    }

    @Says({"T: 12; 4 at first), SEATS 0 .. N less 1", "2: N SEATS, the SPEED"})
    static void seats() {
        fresh.answers(4, "count", 0).answers(0, "about", 0, 0).answers(0, "about", 3, 0)
                .outside("about", 0, 0, 3, 0, 0);
        for (int n = 4; n <= 12; n++) {
            RingRiders x = fresh.takes(0, "round", n, 1);
            due.is(n + " seats", x.count(0), n);
            due.is("the last of " + n, x.about(n - 1, 2), 3);
            due.is("none behind the last of " + n, x.about(n, 2), Edge.BAD);
        }
    }

    @Says("2: BAD.")
    static void roundRefused() {
        fresh.outside("round", 0, 4, 12, 0, 1).outside("round", 1, 0, 3, 4, 0);
        rich.outside("round", 0, 4, 12, 0, 3).outside("round", 1, 0, 3, 12, 0).refuses(Edge.BAD, "round", 3, 4);
    }

    @Says({"T: SPEED (0 .. 3; 1 at first)", "2: N SEATS, the SPEED"})
    static void speeds() {
        fresh.answers(1, "count", 3);
        for (int v = 0; v <= 3; v++) {
            RingRiders x = fresh.takes(0, "round", 4, v);
            due.is("speed " + v, x.count(3), v);
            due.is("by " + v + " in one tick", x.ticks(1), v);
        }
    }

    @Says({"T: KIND (0 at first)", "T: PHASE (0 .. 7; 0 at first)", "T: ANGLE (0 .. N less 1; 0 at first)",
        "T: THE RING hangs at 0 .. 20 (8 at first)", "T: TICKS have numbers, 0 at first"})
    static void atFirst() {
        for (int s = 0; s < 4; s++) {
            fresh.answers(0, "about", s, 0).answers(0, "about", s, 1).answers(3, "about", s, 2);
        }
        int[] counts = {4, 0, 0, 1, 8, 0, 0, 0, 0, 0, 0, 0};
        for (int what = 0; what < counts.length; what++) {
            fresh.answers(counts[what], "count", what);
        }
        fresh.answers(0, "part", 0).answers(1, "part", 1);
        fresh.answers(0, "status", 0).answers(0, "status", 1).answers(0, "status", 2);
        fresh.refuses(Edge.NO, "undo").refuses(Edge.NO, "from", 0).refuses(Edge.NO, "from", 1);
        fresh.answers(-10, "read").answers(0, "clear");
    }

    @Says("2: all else as at first (but for IMAGES, THE TEXT, THE FRACTION, STATUS)")
    static void roundAllElse() {
        RingRiders x = rich.takes(3, "round", 7, 2);
        RingRiders twin = Edge.richOne();
        int[] counts = {7, 0, 0, 2, 8, 0, 0, 0, 0, 0, 0, twin.count(11)};
        for (int what = 0; what < counts.length; what++) {
            due.is("behind round: count(" + what + ")", x.count(what), counts[what]);
        }
        for (int s = 0; s < 7; s++) {
            due.is("behind round: kind on " + s, x.about(s, 0), 0);
            due.is("behind round: phase on " + s, x.about(s, 1), 0);
            due.is("behind round: nobody on " + s, x.about(s, 3), Edge.NONE);
        }
        due.is("nothing to undo", x.undo(), Edge.NO);
        due.is("THE FRACTION stays: above", x.part(0), twin.part(0));
        due.is("THE FRACTION stays: below", x.part(1), twin.part(1));
        due.is("STATUS stays, but for that undo", x.status(1), twin.status(1) + 1);
        due.is("the IMAGE stays", x.from(0), 1);
        twin.from(0);
        due.is("all that is in it", x.digest(), twin.digest());
        due.is("what it may undo", x.undo(), twin.undo());
        due.is("no other IMAGE", x.from(1), Edge.NO);
        due.is("THE TEXT stays", x.read(), 3);
    }

    @Says("2: how many RIDERS there were.")
    static void roundWhoRode() {
        for (int riders = 0; riders <= 6; riders++) {
            Edge some = Edge.told(due, "round 12 0;" + SIX.substring(0, 12 * riders));
            RingRiders x = some.takes(riders, "round", 4, 0);
            due.is("nobody then", x.round(4, 0), 0);
        }
    }

    @Says({"3: The HORSE on a SEAT is of a KIND, a PHASE: of which KIND it was.", "T: PHASE (0 .. 7; 0 at first)"})
    static void horseEdges() {
        int before = 0;
        RingRiders x = new RingRiders();
        for (int kind = 5; kind >= 0; kind--) {
            for (int phase = 0; phase <= 7; phase += 7) {
                due.is("horse(3, " + kind + ", " + phase + ")", x.horse(3, kind, phase), before);
                due.is("its kind", x.about(3, 0), kind);
                due.is("its phase", x.about(3, 1), phase);
                before = kind;
            }
        }
        due.is("the one beside it is as it was", x.about(2, 0), 0);
        Edge twelve = Edge.told(due, "round 12 0;");
        twelve.takes(0, "horse", 0, 5, 7);
        due.is("on the last seat", twelve.takes(0, "horse", 11, 5, 7).about(11, 0), 5);
    }

    @Says("3: BAD.")
    static void horseRefused() {
        fresh.outside("horse", 0, 0, 3, 0, 0, 0);
        Edge.told(due, "round 12 0;").outside("horse", 0, 0, 11, 0, 0, 0);
        rich.outside("horse", 0, 0, 6, 0, 0, 0).outside("horse", 1, 0, 5, 6, 0, 7)
                .outside("horse", 2, 0, 7, 0, 5, 0);
    }

    @Says({"T: RIDERS 0 .. 5, as they come: a KIND, ARM (1 .. 9), on a SEAT (one at most on each); RINGS (0 .. 99; 0 at first)",
        "4: A RIDER comes: the number."})
    static void riderEdges() {
        int[][] come = {{0, 1, 11}, {5, 9, 0}, {1, 9, 1}, {2, 1, 10}, {3, 5, 5}, {4, 2, 6}};
        RingRiders x = Due.told("round 12 0;");
        for (int i = 0; i < come.length; i++) {
            due.is("rider " + i, x.rider(come[i][0], come[i][1], come[i][2]), i);
            for (int what = 0; what < 3; what++) {
                due.is("of(" + i + ", " + what + ")", x.of(i, what), come[i][what]);
            }
            due.is("rings of " + i, x.of(i, 3), 0);
            due.is("who is on it", x.about(come[i][2], 3), i);
            due.is("riders", x.count(1), i + 1);
        }
        due.is("there is no sixth but 5", x.of(6, 0), Edge.BAD);
    }

    @Says("4: BAD")
    static void riderRefused() {
        fresh.outside("rider", 0, 0, 5, 0, 1, 0).outside("rider", 1, 1, 9, 0, 1, 0).outside("rider", 2, 0, 3, 0, 1, 0);
        Edge.told(due, "round 12 0;").outside("rider", 2, 0, 11, 5, 9, 0);
        rich.outside("rider", 0, 0, 5, 0, 1, 6).outside("rider", 1, 1, 9, 0, 1, 6).outside("rider", 2, 0, 6, 0, 1, 0);
    }

    @Says({"4: NO: somebody is on that SEAT", "T: on a SEAT (one at most on each)"})
    static void riderOnATakenSeat() {
        // In that state RIDERS are on SEATS 0, 4 and 5; the one on 4 has left SEAT 2.
        rich.refuses(Edge.NO, "rider", 0, 1, 0).refuses(Edge.NO, "rider", 5, 9, 4).refuses(Edge.NO, "rider", 5, 9, 5);
        due.is("the seat that was left", rich.takes(3, "rider", 0, 1, 2).about(2, 3), 3);
        Edge four = Edge.told(due, "round 4 0;rider 0 1 0;rider 0 1 1;rider 0 1 2;rider 0 1 3;");
        for (int s = 0; s < 4; s++) {
            four.refuses(Edge.NO, "rider", 0, 1, s);
        }
    }

    @Says("4: FULL: 6.")
    static void riderOfSix() {
        Edge six = Edge.told(due, "round 7 0;" + SIX);
        six.refuses(Edge.FULL, "rider", 0, 1, 6);
        due.is("five are not six", Edge.told(due, "round 7 0;" + SIX.substring(12)).takes(5, "rider", 0, 1, 6).count(1), 6);
        // The first of BAD, NO, FULL.
        six.refuses(Edge.NO, "rider", 0, 1, 5).refuses(Edge.BAD, "rider", 0, 0, 5).refuses(Edge.BAD, "rider", 0, 0, 6)
                .refuses(Edge.BAD, "rider", 6, 1, 6).refuses(Edge.BAD, "rider", 0, 1, 7);
    }

    private static RingRiders typedFull() {
        return Due.typed(new RingRiders(), "round 4 0;" + "go 99;".repeat(23) + "  ");
    }

    @Says("5: A byte (0 .. 127) comes behind THE TEXT: how many it has.")
    static void typeEdges() {
        due.is("byte 0", fresh.takes(1, "type", 0).count(11), 1);
        due.is("byte 127", fresh.takes(1, "type", 127).count(11), 1);
        RingRiders x = new RingRiders();
        for (int k = 1; k <= 150; k++) {
            due.is("byte " + k, x.type(127 - k % 128), k);
        }
        due.is("150 of them", x.count(11), 150);
    }

    @Says("5: BAD")
    static void typeRefused() {
        fresh.outside("type", 0, 0, 127, 0);
        rich.outside("type", 0, 0, 127, 0);
        new Edge(due, "full text", EdgeRoundTest::typedFull).outside("type", 0, 0, 127, 0);
    }

    @Says({"5: FULL.", "T: THE ROUND is told by a TEXT (150 bytes at most)"})
    static void typeFull() {
        Edge full = new Edge(due, "full text", EdgeRoundTest::typedFull);
        full.answers(150, "count", 11);
        full.refuses(Edge.FULL, "type", 0).refuses(Edge.FULL, "type", 32).refuses(Edge.FULL, "type", 127);
        due.is("all of it is read", full.takes(24, "read").count(5), 23 * 99);
    }

    @Says("6: THE TEXT is empty: how many it had.")
    static void clearEdges() {
        fresh.answers(0, "clear");
        due.is("27 of them", rich.takes(27, "clear").count(11), 0);
        RingRiders x = new Edge(due, "full text", EdgeRoundTest::typedFull).takes(150, "clear");
        due.is("it is empty", x.count(11), 0);
        due.is("an empty one ends too early", x.read(), -10);
        due.is("there is room again", x.type('r'), 1);
        due.is("nothing of the old one is left", x.read(), -10);
        due.is("all else stays", Edge.richOne().digest() - rich.takes(27, "clear").digest(), digestOfTextBytes(27));
    }

    /** How much a digest is more by so many bytes of THE TEXT, count(11), in the state "rich". */
    private static long digestOfTextBytes(int bytes) {
        // Behind count(11) come 2 of each of 7 SEATS, 4 of each of 3 RIDERS, 4 of each of 5 SEEN, 5 of a NOTE, 5 of a
        // MARK and 2 of THE FRACTION.
        long more = bytes;
        for (int k = 0; k < 14 + 12 + 20 + 5 + 5 + 2; k++) {
            more *= 31;
        }
        return more;
    }
}
