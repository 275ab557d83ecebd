/** Promises 32 to 35: hands, slip, evenings, part. */
public final class ChanceTest {
    private static final Due due = new Due("ChanceTest");

    public static void main(String[] args) {
        hands();
        handsOfBoth();
        handsRefused();
        slip();
        slipOfOthers();
        slipRefused();
        evenings();
        part();
        due.end();
    }

    private static void hands() {
        // The sailor on seat 0 takes 8, 2, 4, 2 by speeds 0 .. 3, the child none: each names 0.
        RingRiders x = Due.told("round 4 1;rider 2 9 0;rider 0 1 1;");
        due.is("one rests", x.hands(0, 1, -1), 1);
        due.is("0 and 0", x.hands(0, 1, 0), 0);
        due.is("no second", x.hands(0, 1, 1), -5);
        // The sailor on seat 1 takes 0, 2, 0, 2: who gets nothing names 0, the other 2, which makes 1.
        x = Due.told("round 4 1;rider 0 1 0;rider 2 9 1;");
        due.is("one rests", x.hands(0, 1, -1), 1);
        due.is("0 and 2", x.hands(0, 1, 0), 2);
        due.is("the other way about", x.hands(1, 0, 0), 20);
    }

    private static void handsOfBoth() {
        // Nobody takes any: more costs more. Pairs that rest: 0 and 0 alone.
        RingRiders x = Due.told("round 4 1;rider 0 1 0;rider 0 1 1;rider 0 1 2;");
        due.is("one rests", x.hands(2, 1, -1), 1);
        due.is("0 and 0", x.hands(2, 1, 0), 0);
        // Sailors on seats 1 and 3 of 4. By 0 and 2 nobody comes by. By 1 the one on 3 in ticks 1, 5, the other
        // in 3, 7; by 3 the other way about: 2 each by 1 and 3. So one of both names 2 (4 less 2), the other 0;
        // 1 and 1 rest, too: 4 less 1 each, less makes 0, more makes it dearer.
        x = Due.told("round 4 1;rider 2 9 1;rider 2 9 3;");
        int[] pairs = {2, 11, 20};
        due.is("three rest", x.hands(0, 1, -1), 3);
        for (int k = 0; k < pairs.length; k++) {
            due.is("pair " + k, x.hands(0, 1, k), pairs[k]);
        }
        due.is("no fourth", x.hands(0, 1, 3), -5);
        // Of 12 seats by 1 seat 4 comes by in tick 8, which pays for naming 2; seat 3 in tick 9, too late.
        x = Due.told("round 12 1;rider 0 1 0;rider 2 9 4;");
        due.is("the eighth tick counts", x.hands(0, 1, -1), 2);
        due.is("0 and 2", x.hands(0, 1, 1), 2);
        x = Due.told("round 12 1;rider 0 1 0;rider 2 9 3;");
        due.is("the ninth does not", x.hands(0, 1, -1), 1);
    }

    private static void handsRefused() {
        RingRiders x = Due.told("round 4 1;rider 0 1 0;rider 0 1 1;");
        due.allAre("wrong hands", -10, x.hands(0, 0, -1), x.hands(1, 1, 0), x.hands(0, 2, -1), x.hands(2, 0, -1),
                x.hands(-1, 0, -1), x.hands(0, -1, -1), x.hands(0, 1, -2), x.hands(0, 1, Integer.MIN_VALUE));
        due.is("they count as BAD", x.status(0), 8);
        due.allAre("not so many", -5, x.hands(0, 1, 16), x.hands(0, 1, Integer.MAX_VALUE));
        due.is("these are not refused", x.status(0), 8);
    }

    private static void slips(RingRiders x, int i, int rings, int n, int c, long above, long below) {
        String call = "slip(" + i + ", " + rings + ", " + n + ", " + c + ")";
        due.is(call, x.slip(i, rings, n, c), 1);
        due.is(call + " above", x.part(0), above);
        due.is(call + " below", x.part(1), below);
    }

    private static void slip() {
        // The child on seat 0 reaches 8 and then no more.
        RingRiders x = Due.told("round 4 0;rider 0 5 0;");
        slips(x, 0, 0, 0, 10, 1, 1);
        slips(x, 0, 1, 0, 0, 0, 1);
        slips(x, 0, 1, 1, 3, 7, 10);
        slips(x, 0, 1, 2, 3, 91, 100);
        slips(x, 0, 1, 6, 3, 999271, 1000000);
        slips(x, 0, 2, 6, 0, 0, 1);
        slips(x, 0, 1, 6, 0, 1, 1);
        slips(x, 0, 1, 6, 10, 0, 1);
        slips(x, 0, 0, 6, 5, 1, 1);
        slips(x, 0, 99, 6, 5, 0, 1);
        // The sailor reaches 15, so each tick is as the one ahead of it.
        x = Due.told("round 4 0;rider 2 9 0;");
        slips(x, 0, 1, 2, 5, 3, 4);
        slips(x, 0, 2, 2, 5, 1, 4);
        slips(x, 0, 6, 6, 3, 117649, 1000000);
        slips(x, 0, 3, 6, 5, 21, 32);
        x.ticks(2);
        slips(x, 0, 2, 1, 9, 1, 1);
        slips(x, 0, 3, 1, 9, 1, 10);
        // By 1 it comes by in tick 4 alone.
        x = Due.told("round 4 1;rider 2 9 0;");
        slips(x, 0, 1, 3, 4, 0, 1);
        slips(x, 0, 1, 4, 4, 3, 5);
        slips(x, 0, 1, 6, 4, 3, 5);
        due.is("nothing else is changed", x.count(4) * 100 + x.count(5), 800);
    }

    private static void slipOfOthers() {
        // The one on seat 2 comes first; if that one slips, it hangs at 8 still.
        RingRiders x = Due.told("round 4 2;rider 0 5 0;rider 0 5 2;");
        slips(x, 0, 1, 2, 3, 21, 100);
        slips(x, 1, 1, 2, 3, 7, 10);
        slips(x, 1, 1, 3, 3, 763, 1000);
    }

    private static void slipRefused() {
        RingRiders x = Due.told("round 4 2;rider 0 5 0;");
        slips(x, 0, 1, 2, 3, 7, 10);
        due.allAre("wrong slip", RingRiders.BAD, x.slip(1, 0, 0, 0), x.slip(-1, 0, 0, 0), x.slip(0, -1, 0, 0),
                x.slip(0, 100, 0, 0), x.slip(0, 0, -1, 0), x.slip(0, 0, 7, 0), x.slip(0, 0, 0, -1),
                x.slip(0, 0, 0, 11));
        due.is("they count", x.status(0), 8);
        due.is("the fraction stays", x.part(0) * 100 + x.part(1), 710);
    }

    private static void evenings() {
        // By SEED 1 the numbers by 65536 are 16838, 5758, 10113, 17515, 31051, 5627, 23010, 7419, 16212, 4086,
        // so the speeds 2, 2, 1, 3, 3, 3, 2, 3, 0, 2 and the angles 2, 0, 1, 0, 3, 2, 0, 3, 3, 1 of 4 seats.
        RingRiders x = Due.told("round 4 1;rider 2 9 0;");
        int[] taken = {0, 0, 1, 1, 2, 2, 2, 3, 3, 3, 3};
        for (int n = 0; n < taken.length; n++) {
            due.is("evenings(1, " + n + ")", x.evenings(1, n), taken[n]);
        }
        // On seat 1 it is angle 3: ticks 5, 8 and 9; of both 2, 4, 5, 7, 8, 9.
        x.rider(2, 9, 1);
        due.is("by all", x.evenings(1, 10), 6);
        // By SEED 0 the first number is 12345, so the speed 0.
        due.is("evenings(0, 1)", x.evenings(0, 1), 1);
        due.is("the edge", x.evenings(999999, 0), 0);
        due.allAre("wrong evenings", RingRiders.BAD, x.evenings(-1, 0), x.evenings(1000000, 0), x.evenings(0, -1),
                x.evenings(0, 61), x.evenings(Integer.MIN_VALUE, Integer.MAX_VALUE));
        due.is("they count", x.status(0), 5);
        due.is("the speed stays", x.count(3), 1);
    }

    private static void part() {
        RingRiders x = Due.told("round 4 0;rider 0 5 0;");
        due.is("0 at first", x.part(0), 0);
        due.is("by 1", x.part(1), 1);
        slips(x, 0, 1, 1, 5, 1, 2);
        due.allAre("wrong part", -2, x.part(2), x.part(-1), x.part(Integer.MAX_VALUE));
        due.is("they count", x.status(0), 3);
        x.image(0);
        slips(x, 0, 1, 1, 2, 4, 5);
        x.from(0);
        due.is("no image keeps it", x.part(0), 4);
        x.round(4, 0);
        due.is("a round leaves it", x.part(1), 5);
    }
}
