/** Promises 22 to 31: seen, phases, tell, note, mark, forget, is, look, kinds, ask. */
public final class GuessTest {
    private static final Due due = new Due("GuessTest");

    public static void main(String[] args) {
        seen();
        phases();
        tell();
        note();
        is();
        look();
        mark();
        kinds();
        ask();
        forget();
        due.end();
    }

    private static void seen() {
        RingRiders x = new RingRiders();
        due.is("seen(0, 0, 0, 0)", x.seen(0, 0, 0, 0), 1);
        due.is("seen(3, 99, 3, 15)", x.seen(3, 99, 3, 15), 2);
        due.allAre("wrong seen", RingRiders.BAD, x.seen(-1, 0, 0, 0), x.seen(4, 0, 0, 0), x.seen(0, -1, 0, 0),
                x.seen(0, 100, 0, 0), x.seen(0, 0, -1, 0), x.seen(0, 0, 4, 0), x.seen(0, 0, 0, -1),
                x.seen(0, 0, 0, 16));
        for (int k = 3; k <= 5; k++) {
            due.is("seen " + k, x.seen(0, 0, 0, 3), k);
        }
        due.is("a sixth", x.seen(0, 0, 0, 3), RingRiders.FULL);
        due.is("a sixth, wrong", x.seen(0, 0, 0, 16), RingRiders.BAD);
        due.is("five", x.count(7), 5);
        due.is("BAD", x.status(0), 9);
        due.is("FULL", x.status(2), 1);
    }

    private static void phases() {
        RingRiders x = Due.told("round 5 2;horse 1 1 5;horse 2 2 0;horse 3 4 0;");
        due.is("all, if none was seen", x.phases(1), 255);
        x.seen(1, 1, 0, 4);
        // u is 1 or 7, so p is 0 or 6.
        due.is("a gallop 4 high in tick 1", x.phases(1), 1 + 64);
        x.seen(1, 10, 3, 5);
        // u is 2 of p 0, 0 of p 6.
        due.is("5 high in tick 10, too", x.phases(1), 1);
        due.is("others are as they were", x.phases(2), 255);
        x.seen(2, 2, 0, 5);
        due.is("a cock 5 high in tick 2", x.phases(2), 4 + 8 + 16 + 32);
        x.seen(3, 0, 3, 10);
        due.is("a stallion 10 high by 3", x.phases(3), 16);
        x.horse(3, 1, 0);
        due.is("were it a gallop", x.phases(3), 0);
        due.allAre("wrong phases", RingRiders.BAD, x.phases(-1), x.phases(5), x.phases(Integer.MAX_VALUE));
        due.is("they count", x.status(0), 3);
    }

    private static void tell() {
        RingRiders x = Due.told("round 5 2;horse 1 1 5;horse 2 2 0;horse 3 4 0;");
        due.is("all are alike on a still one", x.tell(0), 0);
        x.seen(1, 0, 0, 4);
        // Of phases 1 and 7: in tick 0 both 4 high, in tick 1 5 and 3 high.
        due.is("1 and 7", x.tell(1), 10);
        x.seen(1, 1, 0, 5);
        due.is("one alone: the least", x.tell(1), 0);
        x.seen(2, 0, 0, 5);
        // Of phases 4 .. 7 two are 5 high in tick 2 first; in tick 1 three, in tick 0 four.
        due.is("4 to 7", x.tell(2), 20);
        x.seen(2, 2, 0, 3);
        // Of phases 6 and 7 one is 3 high in tick 1 first.
        due.is("6 and 7", x.phases(2), 64 + 128);
        due.is("6 and 7", x.tell(2), 10);
        x.seen(3, 0, 0, 15);
        due.is("no phase", x.tell(3), RingRiders.NONE);
        due.allAre("wrong tell", RingRiders.BAD, x.tell(-1), x.tell(5), x.tell(Integer.MIN_VALUE));
        due.is("they count", x.status(0), 3);
    }

    private static void note() {
        RingRiders x = new RingRiders();
        due.is("note(0, 0, 0, 0, 0)", x.note(0, 0, 0, 0, 0), 1);
        due.is("note(3, 7, 99, 3, 15)", x.note(3, 7, 99, 3, 15), 2);
        due.allAre("wrong note", RingRiders.BAD, x.note(-1, 0, 0, 0, 0), x.note(4, 0, 0, 0, 0), x.note(0, -1, 0, 0, 0),
                x.note(0, 8, 0, 0, 0), x.note(0, 0, -1, 0, 0), x.note(0, 0, 100, 0, 0), x.note(0, 0, 0, -1, 0),
                x.note(0, 0, 0, 4, 0), x.note(0, 0, 0, 0, -1), x.note(0, 0, 0, 0, 16));
        for (int k = 3; k <= 6; k++) {
            due.is("note " + k, x.note(0, 0, 0, 0, 3), k);
        }
        due.is("a seventh", x.note(0, 0, 0, 0, 3), RingRiders.FULL);
        due.is("a seventh, wrong", x.note(0, 0, 0, 0, 16), RingRiders.BAD);
        due.is("six", x.count(8), 6);
        due.is("BAD", x.status(0), 11);
        due.is("FULL", x.status(2), 1);
    }

    private static void is() {
        RingRiders x = new RingRiders();
        due.is("all, if none was noted", x.is(0), 63);
        x.note(0, 0, 0, 0, 3);
        due.is("3 high at 0: all but the pony", x.is(0), 31);
        x.note(0, 3, 9, 1, 7);
        due.is("7 high at 4: a gallop", x.is(0), 2);
        x.note(1, 2, 2, 2, 1);
        due.is("1 high by 2: a swan", x.is(1), 8);
        x.note(2, 4, 0, 0, 4);
        due.is("4 high at 4: a pony", x.is(2), 32);
        x.note(3, 5, 99, 3, 3);
        due.is("3 high at 0 by 3: still, gallop, cock", x.is(3), 7);
        x.note(3, 7, 5, 0, 5);
        due.is("5 high at 4: a cock", x.is(3), 4);
        due.is("others are as they were", x.is(1), 8);
        x.horse(1, 4, 4);
        due.is("the kind and the phase it has do not matter", x.is(1), 8);
        due.allAre("wrong is", RingRiders.BAD, x.is(-1), x.is(4), x.is(Integer.MAX_VALUE));
        due.is("they count", x.status(0), 3);
    }

    private static void look() {
        RingRiders x = new RingRiders();
        // At u 4 by 1: 3, 7, 5, 2, 8, 4; ahead of it two or more are alike.
        due.is("of phase 0", x.look(0), 41);
        x.horse(0, 0, 3);
        due.is("of phase 3", x.look(0), 11);
        x.note(0, 0, 0, 0, 3);
        x.note(0, 4, 0, 0, 3);
        // A still one or a swan: apart by 1 first.
        due.is("still and swan", x.is(0), 1 + 8);
        due.is("apart by 1", x.look(0), 1);
        x.note(0, 0, 0, 2, 1);
        due.is("one alone: the least", x.look(0), 0);
        x.note(0, 0, 0, 2, 2);
        due.is("no kind", x.look(0), RingRiders.NONE);
        // Gallop and stallion, 7 high at 4 by 0; still alike by 0, apart by 1.
        x.note(1, 4, 0, 0, 7);
        due.is("gallop and stallion", x.is(1), 2 + 16);
        due.is("apart by 1", x.look(1), 1);
        // Still, gallop and cock are 3 high at 0 by any; gallop is apart at 1, all three at 4 first.
        x.forget(1);
        x.note(2, 0, 0, 0, 3);
        x.note(2, 0, 0, 1, 3);
        due.is("still, gallop, cock", x.is(2), 7);
        due.is("apart at 4", x.look(2), 40);
        due.allAre("wrong look", RingRiders.BAD, x.look(-1), x.look(4), x.look(Integer.MIN_VALUE));
        due.is("they count", x.status(0), 3);
    }

    private static void mark() {
        RingRiders x = Due.told("round 4 1;rider 0 1 0;rider 0 9 1;");
        due.is("mark(0, 1, 0, 0, 0)", x.mark(0, 1, 0, 0, 0), 1);
        due.is("mark(1, 9, 15, 99, 60)", x.mark(1, 9, 15, 99, 60), 2);
        due.allAre("wrong mark", RingRiders.BAD, x.mark(-1, 1, 0, 0, 0), x.mark(2, 1, 0, 0, 0), x.mark(0, 0, 0, 0, 0),
                x.mark(0, 10, 0, 0, 0), x.mark(0, 1, -1, 0, 0), x.mark(0, 1, 16, 0, 0), x.mark(0, 1, 0, -1, 0),
                x.mark(0, 1, 0, 100, 0), x.mark(0, 1, 0, 0, -1), x.mark(0, 1, 0, 0, 61));
        for (int k = 3; k <= 6; k++) {
            due.is("mark " + k, x.mark(0, 1, 0, 0, 1), k);
        }
        due.is("a seventh", x.mark(0, 1, 0, 0, 1), RingRiders.FULL);
        due.is("a seventh, wrong", x.mark(0, 1, 0, 0, 61), RingRiders.BAD);
        due.is("six", x.count(9), 6);
        due.is("BAD", x.status(0), 11);
        due.is("FULL", x.status(2), 1);
    }

    private static int kindsBy(int a, int h, int r, int reached) {
        RingRiders x = Due.told("round 4 1;rider 0 1 0;");
        x.mark(0, a, h, r, reached);
        return x.kinds(0);
    }

    private static void kinds() {
        // Child 9, aunt 4, sailor 12, bride 4, tired 12, greedy 18 of arm 5, 4 high, no ring.
        due.is("9", kindsBy(5, 4, 0, 9), 1);
        due.is("4", kindsBy(5, 4, 0, 4), 2 + 8);
        due.is("12", kindsBy(5, 4, 0, 12), 4 + 16);
        due.is("18", kindsBy(5, 4, 0, 18), 32);
        // With 2: 9, 4, 12, 6, 10, 9. With 99: 9, 4, 12, 9, 0, 9.
        due.is("9 with 2", kindsBy(5, 4, 2, 9), 1 + 32);
        due.is("6 with 2", kindsBy(5, 4, 2, 6), 8);
        due.is("10 with 2", kindsBy(5, 4, 2, 10), 16);
        due.is("9 with 99", kindsBy(5, 4, 99, 9), 1 + 8 + 32);
        due.is("0 with 99", kindsBy(5, 4, 99, 0), 16);
        due.is("48: twice 24", kindsBy(9, 15, 0, 48), 32);
        due.is("60: nobody", kindsBy(9, 15, 0, 60), 0);
        RingRiders x = Due.told("round 4 1;rider 0 1 0;rider 0 1 1;");
        due.is("all, if none was marked", x.kinds(0), 63);
        x.mark(0, 5, 4, 2, 9);
        x.mark(0, 2, 2, 0, 8);
        due.is("both marks", x.kinds(0), 32);
        due.is("the other's", x.kinds(1), 63);
        due.allAre("wrong kinds", RingRiders.BAD, x.kinds(-1), x.kinds(2), x.kinds(Integer.MAX_VALUE));
        due.is("they count", x.status(0), 3);
    }

    private static void ask() {
        RingRiders x = Due.told("round 4 1;rider 0 5 0;rider 0 3 1;rider 4 1 2;");
        x.mark(0, 5, 4, 0, 4);
        // Aunt and bride, alike with no ring.
        due.is("aunt and bride", x.ask(0), 1);
        x.mark(0, 5, 4, 1, 5);
        due.is("bride alone", x.ask(0), 0);
        x.mark(0, 5, 4, 1, 4);
        due.is("no kind", x.ask(0), RingRiders.NONE);
        x.mark(1, 1, 1, 1, 2);
        // Child, greedy, bride: 3 and 0 high: 3, 6, 1 with none.
        due.is("child, bride and greedy", x.kinds(1), 1 + 8 + 32);
        due.is("apart at once", x.ask(1), 0);
        // Of arm 1: 1, 0, 4, 0, 4, 2 at 0 with none; with one 1, 0, 4, 1, 3, 1; with two 1, 0, 4, 2, 2, 1;
        // with three 1, 0, 4, 3, 1, 1; with four 1, 0, 4, 4, 0, 1: two are alike at best, as greedy is as child
        // with any, and with none aunt is as bride, sailor as tired.
        due.is("all of arm 1", x.ask(2), 0);
        due.allAre("wrong ask", RingRiders.BAD, x.ask(-1), x.ask(3), x.ask(Integer.MIN_VALUE));
        due.is("they count", x.status(0), 3);
        // Of arm 9, marked as sailor or tired with none: with one they are apart.
        x = Due.told("round 4 1;rider 0 9 0;");
        x.mark(0, 1, 1, 0, 5);
        due.is("sailor and tired", x.kinds(0), 4 + 16);
        due.is("apart with one", x.ask(0), 1);
        // Of arm 2, at 0 with none: 2, 1, 4.
        x = Due.told("round 4 1;rider 0 2 0;");
        x.mark(0, 3, 7, 5, 10);
        due.is("child, bride and greedy with five", x.kinds(0), 1 + 8 + 32);
        due.is("apart with none", x.ask(0), 0);
    }

    private static void forget() {
        RingRiders x = Due.told("round 4 1;rider 0 1 0;");
        x.seen(0, 0, 0, 4);
        x.seen(0, 0, 0, 4);
        x.note(0, 0, 0, 0, 4);
        x.mark(0, 1, 1, 1, 60);
        x.mark(0, 1, 1, 1, 60);
        x.mark(0, 1, 1, 1, 60);
        due.allAre("wrong forget", RingRiders.BAD, x.forget(3), x.forget(-1), x.forget(Integer.MAX_VALUE));
        due.is("forget(0)", x.forget(0), 2);
        due.is("phases are all", x.phases(0), 255);
        due.is("notes stay", x.count(8), 1);
        due.is("forget(1)", x.forget(1), 1);
        due.is("kinds are all", x.is(0), 63);
        due.is("marks stay", x.count(9), 3);
        due.is("forget(2)", x.forget(2), 3);
        due.is("kinds of riders are all", x.kinds(0), 63);
        due.allAre("none are left", 0, x.forget(0), x.forget(1), x.forget(2), x.count(7), x.count(8), x.count(9));
        due.is("they count", x.status(0), 3);
    }
}
