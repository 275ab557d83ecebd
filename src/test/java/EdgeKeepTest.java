/** The edges of promises 36 to 40, image, from, status, count, digest, and of what is refused. */
public final class EdgeKeepTest {
    private static final Due due = new Due("EdgeKeepTest");
    private static final Edge fresh = Edge.fresh(due);
    private static final Edge rich = Edge.rich(due);

    public static void main(String[] args) {
        Edge.run(EdgeKeepTest.class);
        due.end();
    }

    @Says({"T: IMAGES 0, 1 keep all but them, THE TEXT, THE FRACTION and STATUS", "36: An IMAGE is kept: 1."})
    static void imageEdges() {
        for (int i = 0; i < 2; i++) {
            RingRiders x = rich.takes(1, "image", i);
            due.is("it changes nothing", x.digest(), Edge.richOne().digest());
            x.round(12, 0);
            x.clear();
            x.type(65);
            x.rider(0, 1, 11);
            x.slip(0, 0, 0, 0);
            x.speed(9);
            x.speed(0);
            for (int row = 0; row < 6; row++) {
                x.seen(11, 98, 2, 14);
                x.note(11, 6, 98, 2, 14);
                x.mark(0, 8, 14, 98, 59);
            }
            int bad = x.status(0);
            int no = x.status(1);
            due.is("from(" + i + ")", x.from(i), 1);
            RingRiders twin = Edge.richOne();
            for (int what = 0; what < 11; what++) {
                due.is("as it was: count(" + what + ")", x.count(what), twin.count(what));
            }
            for (int s = 0; s < 7; s++) {
                due.is("KIND on " + s, x.about(s, 0), twin.about(s, 0));
                due.is("PHASE on " + s, x.about(s, 1), twin.about(s, 1));
                due.is("who is on " + s, x.about(s, 3), twin.about(s, 3));
                due.is("PHASES by SEEN of " + s, x.phases(s), twin.phases(s));
                due.is("KINDS by NOTES of " + s, x.is(s), twin.is(s));
            }
            for (int rider = 0; rider < 3; rider++) {
                for (int what = 0; what < 7; what++) {
                    due.is("of(" + rider + ", " + what + ")", x.of(rider, what), twin.of(rider, what));
                }
                due.is("KINDS by MARKS of " + rider, x.kinds(rider), twin.kinds(rider));
            }
            // All numbers of SEEN, NOTES and MARKS are in the digest, which has THE TEXT and THE FRACTION, too.
            RingRiders like = Edge.richOne();
            like.clear();
            like.type(65);
            like.slip(0, 0, 0, 0);
            due.is("all of them", x.digest(), like.digest());
            due.is("THE TEXT is not kept", x.count(11), 1);
            due.is("THE FRACTION is not kept: above", x.part(0), 1);
            due.is("THE FRACTION is not kept: below", x.part(1), 1);
            due.is("STATUS is not kept: BAD", x.status(0), bad);
            due.is("STATUS is not kept: NO", x.status(1), no);
        }
    }

    @Says("T: keep all but them, THE TEXT, THE FRACTION and STATUS; what may be undone they keep; it goes on from one.")
    static void imagesApart() {
        RingRiders x = new RingRiders();
        x.hangs(1);
        x.image(0);
        x.hangs(2);
        x.image(1);
        x.hangs(3);
        // An IMAGE is none of them: the other stays, and both go on being there.
        due.is("from(0)", x.from(0), 1);
        due.is("hung at 1", x.count(4), 1);
        due.is("one may be undone", x.count(10), 1);
        due.is("from(1)", x.from(1), 1);
        due.is("hung at 2", x.count(4), 2);
        due.is("two may be undone", x.count(10), 2);
        // What comes behind it does not go into it.
        x.undo();
        x.undo();
        x.hangs(19);
        x.ticks(7);
        x.from(1);
        due.is("hung at 2 still", x.count(4), 2);
        due.is("undone", x.undo(), 0);
        due.is("hung at 1 then", x.count(4), 1);
        due.is("undone again", x.undo(), 0);
        due.is("hung at 8 then", x.count(4), 8);
        due.is("no more", x.undo(), Edge.NO);
        // It is kept anew in its place; from is nothing that may be undone.
        x.ticks(5);
        x.image(0);
        x.round(4, 3);
        x.from(0);
        due.is("TICK 5", x.count(5), 5);
        due.is("undone", x.undo(), 0);
        due.is("no more of it", x.undo(), Edge.NO);
        x.from(1);
        due.is("the other is as it was", x.count(4), 2);
    }

    @Says("T: what may be undone they keep")
    static void imagesKeepEight() {
        RingRiders x = new RingRiders();
        for (int k = 0; k < 9; k++) {
            x.ticks(1);
        }
        x.image(1);
        x.horse(0, 1, 0);
        due.is("none behind a HORSE", x.count(10), 0);
        x.from(1);
        due.is("eight", x.count(10), 8);
        for (int k = 8; k >= 1; k--) {
            due.is("undone to " + k, x.undo(), k);
        }
        due.is("no more", x.undo(), Edge.NO);
        // Eight others take the place of these in the round that goes on, not in the IMAGE.
        for (int k = 0; k < 8; k++) {
            x.hangs(k);
        }
        x.from(1);
        for (int k = 8; k >= 1; k--) {
            due.is("undone to " + k + " again", x.undo(), k);
            due.is("hung as at first", x.count(4), 8);
        }
    }

    @Says("36: BAD.")
    static void imageRefused() {
        fresh.outside("image", 0, 0, 1, 0);
        rich.outside("image", 0, 0, 1, 0);
    }

    @Says("37: It goes on from an IMAGE: 1.")
    static void fromEdges() {
        RingRiders x = rich.takes(1, "from", 0);
        due.is("the TICK of that one", x.count(5), 9);
        due.is("one may be undone", x.count(10), 1);
        due.is("goes on", x.ticks(1), 6);
        due.is("from it again", x.from(0), 1);
        due.is("its TICK again", x.count(5), 9);
    }

    @Says("37: BAD")
    static void fromRefused() {
        fresh.outside("from", 0, 0, 1, 0);
        rich.outside("from", 0, 0, 1, 0);
    }

    @Says("37: NO: none was kept.")
    static void fromNone() {
        fresh.refuses(Edge.NO, "from", 0).refuses(Edge.NO, "from", 1);
        rich.refuses(Edge.NO, "from", 1);
        new Edge(due, "image 1 alone", () -> {
            RingRiders x = new RingRiders();
            x.ticks(2);
            x.image(1);
            x.image(2);
            return x;
        }).refuses(Edge.NO, "from", 0).takes(1, "from", 1);
    }

    @Says({"T: STATUS: how many calls were refused as BAD, NO, FULL (each answer told so below is such a one).",
        "38: STATUS: BAD (0), NO (1), FULL (2)."})
    static void statusCounts() {
        fresh.answers(0, "status", 0).answers(0, "status", 1).answers(0, "status", 2);
        rich.answers(1, "status", 0).answers(1, "status", 1).answers(1, "status", 2);
        RingRiders x = new RingRiders();
        for (int k = 1; k <= 60; k++) {
            x.ticks(0);
            x.hangs(8);
            due.is("BAD " + k, x.status(0), k);
            due.is("NO " + k, x.status(1), k);
        }
        for (int k = 1; k <= 5; k++) {
            x.seen(0, 0, 0, 3);
        }
        for (int k = 1; k <= 60; k++) {
            x.seen(0, 0, 0, 3);
            due.is("FULL " + k, x.status(2), k);
        }
        due.is("BAD still", x.status(0), 60);
        due.is("NO still", x.status(1), 60);
    }

    @Says("38: -1: another what (counts as BAD).")
    static void statusOfAnother() {
        for (Edge some : new Edge[] {fresh, rich}) {
            for (int what : new int[] {-1, 3, -2, 4, Integer.MIN_VALUE, Integer.MAX_VALUE}) {
                some.refusesBy(-1, Edge.BAD, "status", what);
            }
        }
    }

    @Says("T: Refused, changing nothing but STATUS, the first of: BAD -2 a number is not as told; NO -3 as told; FULL -4")
    static void firstOfThem() {
        due.is("BAD", RingRiders.BAD, -2);
        due.is("NO", RingRiders.NO, -3);
        due.is("FULL", RingRiders.FULL, -4);
        due.is("NONE", RingRiders.NONE, -1);
        Edge six = Edge.told(due, "round 7 0;rider 0 1 0;rider 0 1 1;rider 0 1 2;rider 0 1 3;rider 0 1 4;rider 0 1 5;");
        // BAD, and NO and FULL as well; NO, and FULL as well; FULL alone.
        six.refuses(Edge.BAD, "rider", 6, 1, 0).refuses(Edge.BAD, "rider", 0, 10, 0).refuses(Edge.NO, "rider", 0, 1, 0)
                .refuses(Edge.FULL, "rider", 0, 1, 6).refuses(Edge.BAD, "rider", 0, 0, 6);
        six.refuses(Edge.BAD, "changes", 6, 0).refuses(Edge.BAD, "changes", 0, 7);
        rich.refuses(Edge.BAD, "seen", 7, 0, 0, 0).refuses(Edge.FULL, "seen", 6, 0, 0, 0);
        fresh.refuses(Edge.BAD, "from", 2).refuses(Edge.NO, "from", 1);
    }

    @Says("T: (where others are told they count as these)")
    static void othersCount() {
        for (Edge some : new Edge[] {rich, Edge.told(due, "round 4 1;rider 0 1 0;rider 0 1 1;")}) {
            some.refusesBy(-10, Edge.BAD, "level", -2).refusesBy(-10, Edge.BAD, "lever", 0, 7, 0)
                    .refusesBy(-10, Edge.BAD, "hands", 1, 1, 0).refusesBy(-1, Edge.BAD, "status", 3);
            // Not so many, none, and a FAULT are answers, not refusals.
            some.answers(-5, "level", 99).answers(-5, "lever", 0, 6, 6).answers(-5, "hands", 0, 1, 99);
        }
        fresh.answers(-10, "read").answers(Edge.NONE, "about", 0, 3);
    }

    @Says("39: How many: 0 SEATS, 1 RIDERS, 2 ANGLE, 3 SPEED, 4 where THE RING hangs, 5 the TICK, 6 RINGS of all together,"
        + " 7 SEEN, 8 NOTES, 9 MARKS, 10 that may be undone, 11 bytes of THE TEXT.")
    static void countEdges() {
        int[] atFirst = {4, 0, 0, 1, 8, 0, 0, 0, 0, 0, 0, 0};
        for (int what = 0; what < 12; what++) {
            fresh.answers(atFirst[what], "count", what);
        }
        // Of 7 by 2 the child takes 4 in TICK 1, the bride 5 in TICK 6, the sailor 6 in TICK 7; ANGLE is 24 by 7.
        int[] inRich = {7, 3, 3, 1, 6, 12, 3, 5, 1, 1, 5, 27};
        for (int what = 0; what < 12; what++) {
            rich.answers(inRich[what], "count", what);
        }
        // As many as there may be; ANGLE is 33 by 12.
        Edge most = new Edge(due, "most", EdgeKeepTest::most);
        int[] all = {12, 6, 9, 3, 20, 11, 11, 5, 6, 6, 8, 150};
        for (int what = 0; what < 12; what++) {
            most.answers(all[what], "count", what);
        }
    }

    /** All rows full; by 3 of 12 SEATS 9, 6, 3, 0 are at the POST in turn, and a sailor, who REACHES 15, on each. */
    private static RingRiders most() {
        RingRiders x = Due.told("round 12 3;rider 2 9 9;rider 2 9 6;rider 2 9 3;rider 2 9 0;rider 0 1 1;rider 5 7 11;ring 0;");
        for (int k = 0; k < 5; k++) {
            x.seen(11, k, 0, 3);
        }
        for (int k = 0; k < 6; k++) {
            x.note(11, 0, k, 0, 3);
            x.mark(5, 1, k, 0, k + 1);
        }
        x.ticks(11);
        for (int k = 0; k < 9; k++) {
            x.hangs(20 - k % 2);
        }
        return Due.typed(x, " ".repeat(150));
    }

    @Says("39: BAD.")
    static void countRefused() {
        fresh.outside("count", 0, 0, 11, 0);
        rich.outside("count", 0, 0, 11, 0);
    }

    @Says({"40: h = 1811; then h = 31 h + v for each v: count(0) to count(11)", "40: THE FRACTION."})
    static void digestEdges() {
        // Nobody rides, and nothing is there.
        due.is("new", new RingRiders().digest(), Due.fold(4, 0, 0, 1, 8, 0, 0, 0, 0, 0, 0, 0, 0, 0, 0, 0, 0, 0, 0, 0, 0, 1));
        due.is("most", most().digest(), Due.fold(12, 6, 9, 3, 20, 11, 11, 5, 6, 6, 8, 150,
                0, 0, 0, 0, 0, 0, 0, 0, 0, 0, 0, 0, 0, 0, 0, 0, 0, 0, 0, 0, 0, 0, 0, 0,
                2, 9, 9, 3, 2, 9, 6, 3, 2, 9, 3, 3, 2, 9, 0, 2, 0, 1, 1, 0, 5, 7, 11, 0,
                11, 0, 0, 3, 11, 1, 0, 3, 11, 2, 0, 3, 11, 3, 0, 3, 11, 4, 0, 3,
                11, 0, 0, 0, 3, 11, 0, 1, 0, 3, 11, 0, 2, 0, 3, 11, 0, 3, 0, 3, 11, 0, 4, 0, 3, 11, 0, 5, 0, 3,
                5, 1, 0, 0, 1, 5, 1, 1, 0, 2, 5, 1, 2, 0, 3, 5, 1, 3, 0, 4, 5, 1, 4, 0, 5, 5, 1, 5, 0, 6,
                0, 1));
        due.is("rich", Edge.richOne().digest(), Due.fold(7, 3, 3, 1, 6, 12, 3, 5, 1, 1, 5, 27,
                1, 3, 0, 0, 4, 1, 0, 0, 0, 0, 5, 6, 0, 0,
                2, 9, 0, 1, 3, 5, 4, 1, 0, 3, 5, 1,
                2, 3, 1, 8, 0, 8, 0, 6, 5, 99, 3, 4, 6, 0, 0, 3, 6, 1, 0, 3,
                2, 1, 2, 3, 9,
                1, 5, 4, 1, 5,
                7, 10));
        // What has gone is not in it: RIDERS and SEATS of an earlier ROUND, rows that are forgotten, what was undone.
        RingRiders x = most();
        x.round(4, 1);
        x.clear();
        due.is("gone", x.digest(), new RingRiders().digest());
        fresh.leaves("digest");
        rich.leaves("digest");
    }
}
