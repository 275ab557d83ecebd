/** The edges of promises 32 to 35: hands, slip, evenings, part. */
public final class EdgeChanceTest {
    private static final Due due = new Due("EdgeChanceTest");
    private static final Edge fresh = Edge.fresh(due);
    private static final Edge rich = Edge.rich(due);

    public static void main(String[] args) {
        Edge.run(EdgeChanceTest.class);
        due.end();
    }

    private static void rest(String text, int... pairs) {
        Edge told = Edge.told(due, text);
        told.answers(pairs.length, "hands", 0, 1, Edge.NONE);
        for (int k = 0; k < pairs.length; k++) {
            told.answers(pairs[k], "hands", 0, 1, k);
            told.answers(pairs[k] % 10 * 10 + pairs[k] / 10, "hands", 1, 0, turned(pairs, k));
        }
        told.answers(Edge.NOT_SO_MANY, "hands", 0, 1, pairs.length);
    }

    /** At which place the k-th pair is, told the other way about. */
    private static int turned(int[] pairs, int k) {
        int ahead = 0;
        for (int pair : pairs) {
            ahead += pair % 10 * 10 + pair / 10 < pairs[k] % 10 * 10 + pairs[k] / 10 ? 1 : 0;
        }
        return ahead;
    }

    @Says({"T: HANDS: two at the lever name SPEEDS i, j (0 .. 3) for the next 8 TICKS; half (cut) of both together is the SPEED:"
        + " to the one twice the RINGS that RIDER a takes, less i, to the other twice those of RIDER b (unlike ones), less j:"
        + " pairs 10 i and j that rest (neither would get more by another SPEED): how many; the k-th (rising).",
        "32: HANDS: how many (k = NONE), the k-th."})
    static void handsEdges() {
        // Who takes none by any SPEED names 0.
        rest("round 4 1;rider 0 1 0;rider 0 1 1;", 0);
        // Of 6 the one on SEAT 3 takes 0, 1, 0, 4 by SPEEDS 0 .. 3, the one on SEAT 0 8, 1, 2, 4: 8 and 8 less 3 by 3 and
        // 3; 0 and 16 by 0 and 0; 2 less 2 and 2 by 2 and 0, which is as good to the one as 0 by 0 and 0.
        rest("round 6 1;rider 2 9 3;rider 2 9 0;", 0, 20, 33);
        // By 1 and 3 two each, by 0 and 2 none: 1 and 2 together are 1, 0 and 1 together 0.
        rest("round 4 1;rider 2 9 1;rider 2 9 3;", 2, 11, 20);
        // By 1 SEAT 4 of 12 is at the POST in TICK 8: to name 2 for it is as good as 0. SEAT 3 is in TICK 9, too late.
        rest("round 12 1;rider 0 1 0;rider 0 5 4;", 0, 2);
        rest("round 12 1;rider 0 1 0;rider 0 5 3;", 0);
        // The one on SEAT 2 of 4 takes 0, 2, 4, 2, the one on SEAT 1 0, 2, 0, 2: by 1 and 1 the one would name 3, and only 3.
        rest("round 4 1;rider 2 9 2;rider 2 9 1;", 20);
        // What a third one takes is neither's, whatever number that one has.
        String[] others = {"rider 2 9 3;rider 0 1 0;rider 0 1 1;", "rider 0 1 0;rider 2 9 3;rider 0 1 1;",
            "rider 0 1 0;rider 0 1 1;rider 2 9 3;"};
        for (int third = 0; third < 3; third++) {
            int a = (third + 1) % 3;
            int b = (third + 2) % 3;
            Edge.told(due, "round 4 1;" + others[third]).answers(1, "hands", a, b, Edge.NONE).answers(0, "hands", a, b, 0)
                    .answers(1, "hands", b, a, Edge.NONE).answers(0, "hands", b, a, 0);
        }
    }

    @Says("T: half (cut) of both together is the SPEED: to the one twice the RINGS that RIDER a takes, less i")
    static void handsTwice() {
        // A call's answer does not hang on what was asked ahead of it.
        RingRiders x = Due.told("round 6 1;rider 2 9 3;rider 2 9 0;rider 0 1 1;rider 0 1 2;");
        int[] pairs = {0, 20, 33};
        for (int k = 0; k < pairs.length; k++) {
            due.is("both of whom take", x.hands(0, 1, k), pairs[k]);
            due.is("neither of whom takes", x.hands(2, 3, Edge.NONE), 1);
            due.is("three of the first", x.hands(0, 1, Edge.NONE), 3);
        }
    }

    @Says("32: -5: not so many.")
    static void handsNotSoMany() {
        Edge told = Edge.told(due, "round 6 1;rider 2 9 3;rider 2 9 0;");
        told.answers(Edge.NOT_SO_MANY, "hands", 0, 1, 3).answers(Edge.NOT_SO_MANY, "hands", 0, 1, 16)
                .answers(Edge.NOT_SO_MANY, "hands", 1, 0, Integer.MAX_VALUE);
    }

    @Says({"32: BAD: -10: alike a, b, too.", "T: to the other twice those of RIDER b (unlike ones)"})
    static void handsRefused() {
        fresh.refusesBy(Edge.BAD_OF_LIST, Edge.BAD, "hands", 0, 1, Edge.NONE);
        rich.outsideBy(Edge.BAD_OF_LIST, "hands", 0, 0, 2, 0, 1, Edge.NONE)
                .outsideBy(Edge.BAD_OF_LIST, "hands", 1, 0, 2, 0, 1, 0);
        for (int i = 0; i < 3; i++) {
            rich.refusesBy(Edge.BAD_OF_LIST, Edge.BAD, "hands", i, i, Edge.NONE)
                    .refusesBy(Edge.BAD_OF_LIST, Edge.BAD, "hands", i, i, 99)
                    .refusesBy(Edge.BAD_OF_LIST, Edge.BAD, "hands", i, (i + 1) % 3, -2)
                    .refusesBy(Edge.BAD_OF_LIST, Edge.BAD, "hands", i, (i + 1) % 3, Integer.MIN_VALUE);
            rich.leaves("hands", i, (i + 1) % 3, Edge.NONE);
        }
        rich.refusesBy(Edge.BAD_OF_LIST, Edge.BAD, "hands", 3, 3, Edge.NONE);
    }

    private static void slips(String text, int x, int n, int c, long above, long below) {
        RingRiders y = Edge.told(due, text).takes(1, "slip", 0, x, n, c);
        String of = text + " slip(0, " + x + ", " + n + ", " + c + ")";
        due.is(of + " above", y.part(0), above);
        due.is(of + " below", y.part(1), below);
        due.is(of + ": nothing to undo, no TICK", y.count(10) + y.count(5) - Due.told(text).count(5), 0);
    }

    @Says({"T: SLIP: by c of 10 (0 .. 10) a RIDER at the POST does not get THE RING that one REACHES",
        "33: SLIP is THE FRACTION: 1."})
    static void slipOdds() {
        String child = "round 4 0;rider 0 5 0;";
        slips(child, 1, 1, 0, 1, 1);
        slips(child, 1, 1, 1, 9, 10);
        slips(child, 1, 1, 9, 1, 10);
        slips(child, 1, 1, 10, 0, 1);
        slips(child, 1, 6, 10, 0, 1);
        slips(child, 1, 6, 0, 1, 1);
        // What one does not REACH is not to be had, by no odds.
        slips("round 4 0;rider 0 4 0;", 1, 6, 0, 0, 1);
        slips("round 4 0;rider 0 5 1;", 1, 6, 0, 0, 1);
    }

    @Says("T: (it stays as it hangs), each time apart")
    static void slipApart() {
        // The child REACHES 8 and no more: once in six, 1 less 9 by 10 six times.
        String child = "round 4 0;rider 0 5 0;";
        slips(child, 1, 2, 9, 19, 100);
        slips(child, 1, 6, 9, 1000000 - 531441, 1000000);
        slips(child, 2, 6, 9, 0, 1);
        // It stays at 8 for the one who comes behind, if the one ahead slips: 3 by 10 times 7 by 10.
        slips("round 4 2;rider 0 5 0;rider 0 5 2;", 1, 2, 3, 21, 100);
        // By 2 the sailor on SEAT 0 is at the POST in TICKS 2, 4, 6, the other one in TICKS 1, 3, 5.
        slips("round 4 2;rider 2 9 0;rider 2 9 2;", 3, 6, 3, 343, 1000);
        slips("round 4 2;rider 2 9 0;rider 2 9 2;", 1, 6, 3, 973, 1000);
        slips("round 4 2;rider 2 9 2;rider 2 9 0;", 3, 5, 3, 343, 1000);
        slips("round 4 2;rider 2 9 2;rider 2 9 0;", 3, 4, 3, 0, 1);
    }

    @Says("T: the chance that a RIDER has x (0 .. 99) RINGS or more behind n (0 .. 6) TICKS: THE FRACTION.")
    static void slipRingsAndTicks() {
        String sailor = "round 4 0;rider 2 9 0;";
        slips(sailor, 0, 0, 5, 1, 1);
        slips(sailor, 1, 0, 5, 0, 1);
        slips(sailor, 0, 6, 10, 1, 1);
        slips(sailor, 99, 6, 0, 0, 1);
        slips(sailor, 6, 6, 0, 1, 1);
        slips(sailor, 7, 6, 0, 0, 1);
        slips(sailor, 6, 6, 5, 1, 64);
        slips(sailor, 1, 6, 5, 63, 64);
        slips(sailor, 6, 5, 5, 0, 1);
        slips(sailor, 6, 6, 7, 729, 1000000);
        // RINGS that one has are had: two taken ahead of it.
        slips(sailor + "go 2;", 2, 0, 10, 1, 1);
        slips(sailor + "go 2;", 3, 0, 0, 0, 1);
        slips(sailor + "go 2;", 3, 1, 6, 2, 5);
        // With 98 and with 99.
        RingRiders x = withRings(98);
        slipOf(x, 99, 1, 3, 7, 10);
        slipOf(x, 98, 6, 3, 1, 1);
        slipOf(x, 99, 0, 3, 0, 1);
        x = withRings(99);
        slipOf(x, 99, 0, 3, 1, 1);
        slipOf(x, 99, 6, 3, 1, 1);
    }

    /** The sailor with so many RINGS, THE RING at 0. */
    private static RingRiders withRings(int rings) {
        RingRiders x = Due.told("round 4 0;rider 2 9 0;");
        for (int k = 0; k < 20 && x.of(0, 3) < rings; k++) {
            x.hangs(0);
            x.ticks(Math.min(14, rings - x.of(0, 3)));
        }
        x.hangs(0);
        return x;
    }

    private static void slipOf(RingRiders y, int x, int n, int c, long above, long below) {
        String of = "with " + y.of(0, 3) + ": slip(0, " + x + ", " + n + ", " + c + ")";
        due.is(of, y.slip(0, x, n, c), 1);
        due.is(of + " above", y.part(0), above);
        due.is(of + " below", y.part(1), below);
    }

    @Says("33: BAD.")
    static void slipRefused() {
        fresh.refuses(Edge.BAD, "slip", 0, 0, 0, 0);
        rich.outside("slip", 0, 0, 2, 0, 0, 0, 0).outside("slip", 1, 0, 99, 0, 0, 0, 0)
                .outside("slip", 2, 0, 6, 0, 0, 0, 0).outside("slip", 3, 0, 10, 0, 0, 0, 0)
                .outside("slip", 2, 0, 6, 2, 99, 0, 10).outside("slip", 3, 0, 10, 2, 99, 6, 0);
    }

    @Says({"T: THE FRACTION is 0 by 1 at first; lowest terms, below above 0.", "35: THE FRACTION: above (0), below (1)."})
    static void fractionEdges() {
        fresh.answers(0, "part", 0).answers(1, "part", 1);
        // Each of n by 10 in lowest terms.
        int[][] tenths = {{1, 1}, {9, 10}, {4, 5}, {7, 10}, {3, 5}, {1, 2}, {2, 5}, {3, 10}, {1, 5}, {1, 10}, {0, 1}};
        for (int c = 0; c <= 10; c++) {
            slips("round 4 0;rider 0 5 0;", 1, 1, c, tenths[c][0], tenths[c][1]);
        }
        // 0 is 0 by 1, also where a million is below, and behind another FRACTION.
        RingRiders x = Due.told("round 4 0;rider 0 5 0;");
        slipOf(x, 1, 6, 9, 468559, 1000000);
        slipOf(x, 2, 6, 9, 0, 1);
        slipOf(x, 0, 6, 9, 1, 1);
    }

    @Says("35: BAD.")
    static void partRefused() {
        fresh.outside("part", 0, 0, 1, 0);
        rich.outside("part", 0, 0, 1, 0);
    }

    @Says({"T: EVENINGS by a SEED (0 .. 999999), n (0 .. 60) TICKS: X is SEED at first",
        "T: X becomes X times 1103515245 and 12345, by 2147483648 what is left over; SPEED is X by 65536 (cut), by 4 left over",
        "34: EVENINGS."})
    static void eveningsEdges() {
        // By SEED 0 the SPEEDS are 0, 0, 0, 1, 2, 3, 1, 1, 2, 2, by SEED 999999 0, 2, 3, 3, 2, 1, 3, 1, 0, 0, 1: of 4 SEATS
        // SEAT 0 is at the POST in TICKS 1, 2, 3, 8, 10, and in TICKS 1, 4, 11.
        Edge told = Edge.told(due, "round 4 1;rider 2 9 0;");
        int[] byNought = {0, 1, 2, 3, 3, 3, 3, 3, 4, 4, 5};
        int[] byMost = {0, 1, 1, 1, 2, 2, 2, 2, 2, 2, 2, 3};
        for (int n = 0; n < byNought.length; n++) {
            told.answers(byNought[n], "evenings", 0, n);
        }
        for (int n = 0; n < byMost.length; n++) {
            told.answers(byMost[n], "evenings", 999999, n);
        }
        // On a gallop of PHASE 0 one of ARM 1 REACHES 8 in TICKS 4, 12, .., 60; of 5 SEATS by SEED 999962 SEAT 0 is at the
        // POST in the last of these alone.
        Edge late = Edge.told(due, "round 5 1;horse 0 1 0;rider 0 1 0;");
        late.answers(0, "evenings", 999962, 59).answers(1, "evenings", 999962, 60);
        // From now on: three TICKS of 4 SEATS by 1 on, ANGLE is 3, and by SEED 0 SEAT 1 is at the POST in TICKS 1, 2, 3.
        RingRiders x = Due.told("round 4 1;rider 2 9 1;");
        due.is("ahead of the TICKS", x.evenings(0, 3), 0);
        x.ticks(3);
        due.is("behind them", x.evenings(0, 3), 3);
        x.changes(0, 2);
        due.is("on SEAT 2", x.evenings(0, 3), 0);
        x.undo();
        due.is("on SEAT 1 again", x.evenings(0, 3), 3);
        // By all: nobody, and all seats at once, where one is at the POST in each TICK.
        fresh.answers(0, "evenings", 0, 60).answers(0, "evenings", 999999, 0);
        Edge.told(due, "round 4 1;rider 2 9 0;rider 2 9 1;rider 2 9 2;rider 2 9 3;").answers(8, "evenings", 5, 8)
                .answers(8, "evenings", 5, 60);
    }

    @Says("34: BAD.")
    static void eveningsRefused() {
        fresh.outside("evenings", 0, 0, 999999, 0, 0).outside("evenings", 1, 0, 60, 0, 0);
        rich.outside("evenings", 0, 0, 999999, 0, 60).outside("evenings", 1, 0, 60, 999999, 0);
    }
}
