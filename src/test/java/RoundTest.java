/** Promises 1 to 7: a new object, round, horse, rider, type, clear, read. */
public final class RoundTest {
    private static final Due due = new Due("RoundTest");

    public static void main(String[] args) {
        newObject();
        round();
        roundLeavesTheRest();
        horse();
        rider();
        type();
        clear();
        readsItems();
        readsFaults();
        readTakesThePlace();
        faultChangesNothing();
        due.end();
    }

    private static void newObject() {
        RingRiders x = new RingRiders();
        int[] counts = {4, 0, 0, 1, 8, 0, 0, 0, 0, 0, 0, 0};
        for (int what = 0; what < counts.length; what++) {
            due.is("new: count(" + what + ")", x.count(what), counts[what]);
        }
        for (int s = 0; s < 4; s++) {
            due.is("new: kind on " + s, x.about(s, 0), 0);
            due.is("new: phase on " + s, x.about(s, 1), 0);
            due.is("new: high on " + s, x.about(s, 2), 3);
            due.is("new: nobody on " + s, x.about(s, 3), RingRiders.NONE);
        }
        due.is("new: above", x.part(0), 0);
        due.is("new: below", x.part(1), 1);
        due.is("new: nothing to undo", x.undo(), RingRiders.NO);
        RingRiders y = new RingRiders();
        due.allAre("new: status", 0, y.status(0), y.status(1), y.status(2));
        due.allAre("new: no image", RingRiders.NO, y.from(0), y.from(1));
    }

    private static void round() {
        RingRiders x = new RingRiders();
        due.is("round(12, 3)", x.round(12, 3), 0);
        due.is("12 seats", x.count(0), 12);
        due.is("speed 3", x.count(3), 3);
        due.is("round(4, 0)", x.round(4, 0), 0);
        due.is("4 seats", x.count(0), 4);
        due.is("speed 0", x.count(3), 0);
        x.rider(0, 1, 0);
        x.rider(0, 1, 3);
        due.allAre("wrong round", RingRiders.BAD, x.round(3, 1), x.round(13, 1), x.round(4, -1), x.round(4, 4),
                x.round(Integer.MIN_VALUE, 0), x.round(4, Integer.MAX_VALUE));
        due.is("wrong rounds count", x.status(0), 6);
        due.is("wrong rounds change nothing", x.count(1), 2);
        due.is("round says how many rode", x.round(5, 2), 2);
        due.is("nobody rides then", x.count(1), 0);
    }

    private static void roundLeavesTheRest() {
        RingRiders x = new RingRiders();
        x.round(6, 1);
        x.horse(5, 4, 3);
        x.rider(2, 9, 0);
        x.hangs(2);
        x.ticks(7);
        x.seen(0, 0, 0, 3);
        x.note(0, 0, 0, 0, 3);
        x.mark(0, 1, 1, 1, 1);
        x.image(1);
        x.slip(0, 0, 0, 0);
        x.type(65);
        x.speed(1);
        due.is("round(6, 2)", x.round(6, 2), 1);
        int[] counts = {6, 0, 0, 2, 8, 0, 0, 0, 0, 0, 0, 1};
        for (int what = 0; what < counts.length; what++) {
            due.is("after round: count(" + what + ")", x.count(what), counts[what]);
        }
        due.is("horses are as at first", x.about(5, 0), 0);
        due.is("phases are as at first", x.about(5, 1), 0);
        due.is("the fraction stays", x.part(0), 1);
        due.is("status stays", x.status(1), 1);
        due.is("the image stays", x.from(1), 1);
        due.is("the image's tick", x.count(5), 7);
        due.is("the image's horse", x.about(5, 0), 4);
    }

    private static void horse() {
        RingRiders x = new RingRiders();
        due.is("horse(0, 5, 7)", x.horse(0, 5, 7), 0);
        due.is("horse(0, 2, 1)", x.horse(0, 2, 1), 5);
        due.is("its kind", x.about(0, 0), 2);
        due.is("its phase", x.about(0, 1), 1);
        due.is("horse(3, 0, 0)", x.horse(3, 0, 0), 0);
        x.ticks(1);
        long before = x.digest();
        due.allAre("wrong horse", RingRiders.BAD, x.horse(-1, 0, 0), x.horse(4, 0, 0), x.horse(0, -1, 0),
                x.horse(0, 6, 0), x.horse(0, 0, -1), x.horse(0, 0, 8), x.horse(Integer.MAX_VALUE, 0, 0));
        due.is("wrong horses change nothing", x.digest(), before);
        due.is("wrong horses count", x.status(0), 7);
        due.is("the tick may be undone still", x.count(10), 1);
        due.is("the same horse again", x.horse(0, 2, 1), 2);
        due.is("none may be undone behind a horse", x.undo(), RingRiders.NO);
    }

    private static void rider() {
        RingRiders x = new RingRiders();
        x.round(8, 1);
        due.is("rider(5, 9, 7)", x.rider(5, 9, 7), 0);
        due.is("rider(0, 1, 0)", x.rider(0, 1, 0), 1);
        due.is("kind", x.of(0, 0), 5);
        due.is("arm", x.of(0, 1), 9);
        due.is("seat", x.of(0, 2), 7);
        due.is("rings", x.of(0, 3), 0);
        due.is("on the seat", x.about(7, 3), 0);
        due.allAre("wrong rider", RingRiders.BAD, x.rider(-1, 1, 1), x.rider(6, 1, 1), x.rider(0, 0, 1),
                x.rider(0, 10, 1), x.rider(0, 1, -1), x.rider(0, 1, 8), x.rider(0, 10, 0));
        due.is("a seat that is taken", x.rider(0, 1, 7), RingRiders.NO);
        x.ticks(1);
        due.is("refused riders leave what may be undone", x.rider(0, 1, 0), RingRiders.NO);
        due.is("one may be undone", x.count(10), 1);
        for (int s = 1; s <= 4; s++) {
            due.is("rider on " + s, x.rider(0, 1, s), s + 1);
        }
        due.is("none may be undone behind a rider", x.count(10), 0);
        due.is("a seventh on a seat that is taken", x.rider(0, 1, 0), RingRiders.NO);
        due.is("a seventh that is wrong", x.rider(0, 0, 0), RingRiders.BAD);
        due.is("a seventh", x.rider(0, 1, 5), RingRiders.FULL);
        due.is("refused as BAD", x.status(0), 8);
        due.is("refused as NO", x.status(1), 3);
        due.is("refused as FULL", x.status(2), 1);
        due.is("six ride", x.count(1), 6);
    }

    private static void type() {
        RingRiders x = new RingRiders();
        due.is("type(0)", x.type(0), 1);
        due.is("type(127)", x.type(127), 2);
        due.allAre("wrong byte", RingRiders.BAD, x.type(-1), x.type(128), x.type(Integer.MIN_VALUE));
        for (int k = 3; k <= 150; k++) {
            due.is("byte " + k, x.type(32), k);
        }
        due.is("byte 151", x.type(32), RingRiders.FULL);
        due.is("byte 151, wrong", x.type(128), RingRiders.BAD);
        due.is("150 bytes", x.count(11), 150);
        due.is("refused as BAD", x.status(0), 4);
        due.is("refused as FULL", x.status(2), 1);
    }

    private static void clear() {
        RingRiders x = new RingRiders();
        due.is("clear an empty text", x.clear(), 0);
        Due.typed(x, "round");
        due.is("clear five", x.clear(), 5);
        due.is("it is empty", x.count(11), 0);
        due.is("type behind it", x.type(33), 1);
    }

    private static void reads(String text, int want) {
        due.is("read \"" + text + "\"", Due.typed(new RingRiders(), text).read(), want);
    }

    private static void faultAt(String text, int place) {
        reads(text, -10 - place);
    }

    private static void readsItems() {
        reads("round 4 0;", 1);
        reads("round 12 3;", 1);
        reads("round 04 00;", 1);
        reads("  round  4   0  ;  ", 1);
        reads("round4 0;", 1);
        reads("round 4 0;horse 3 5 7;", 2);
        reads("round 4 0;rider 5 9 3;", 2);
        reads("round 4 0;rider 0 1 0;horse 0 1 1;rider 1 2 1;", 4);
        reads("round 4 0;ring 0;ring 20;ring 08;", 4);
        reads("round 4 0;go 1;go 99;", 3);
        reads("round 6 1;rider 0 1 0;rider 0 1 1;rider 0 1 2;rider 0 1 3;rider 0 1 4;rider 0 1 5;", 7);
        StringBuilder most = new StringBuilder("round 4 1;");
        for (int k = 0; k < 28; k++) {
            most.append("go99;");
        }
        RingRiders x = Due.typed(new RingRiders(), most.toString());
        due.is("150 bytes", x.count(11), 150);
        due.is("29 items", x.read(), 29);
        due.is("2772 ticks", x.count(5), 28 * 99);
    }

    private static void readsFaults() {
        String r = "round 4 0;";
        faultAt("", 0);
        faultAt(" ", 1);
        faultAt("r", 0);
        faultAt("rounds 4 0;", 0);
        faultAt("rounda 4 0;", 0);
        faultAt("roundz 4 0;", 0);
        faultAt("round{ 4 0;", 5);
        faultAt("round` 4 0;", 5);
        faultAt("Round 4 0;", 0);
        faultAt(";", 0);
        faultAt("  4", 2);
        faultAt("horse 0 0 0;", 0);
        faultAt("go 1;" + r, 0);
        faultAt("round", 5);
        faultAt("round  ", 7);
        faultAt("round 4", 7);
        faultAt("round 4 0", 9);
        faultAt("round 3 0;", 6);
        faultAt("round 13 0;", 6);
        faultAt("round 004 0;", 6);
        faultAt("round 12345678901234567890 0;", 6);
        faultAt("round 4 4;", 8);
        faultAt("round four 0;", 6);
        faultAt("round ;", 6);
        faultAt("round 4 0 0;", 10);
        faultAt("round 4 -1;", 8);
        faultAt(r + ";", 10);
        faultAt(r + r, 10);
        faultAt(r + "x", 10);
        faultAt(r + " ho", 11);
        faultAt(r + "7", 10);
        faultAt(r + "777", 10);
        faultAt(r + "\t", 10);
        faultAt(r + "\0", 10);
        faultAt(r + "{", 10);
        faultAt(r + "`", 10);
        faultAt(r + "go 5x;", 14);
        faultAt(r + "go 5:", 14);
        faultAt(r + "go 5/", 14);
        faultAt(r + "horse 4 0 0;", 16);
        faultAt(r + "horse 3 6 0;", 18);
        faultAt(r + "horse 3 5 8;", 20);
        faultAt(r + "horse 3 5 7 7;", 22);
        faultAt(r + "horse 3 5 7", 21);
        faultAt(r + "rider 6 1 0;", 16);
        faultAt(r + "rider 0 0 0;", 18);
        faultAt(r + "rider 0 10 0;", 18);
        faultAt(r + "rider 0 1 4;", 20);
        faultAt(r + "rider 0 1 0;rider 1 2 0;", 32);
        faultAt(r + "rider 0 1 0;rider 1 2 10;", 32);
        faultAt(r + "ring 21;", 15);
        faultAt(r + "ring 020;", 15);
        faultAt(r + "ring;", 14);
        faultAt(r + "go 0;", 13);
        faultAt(r + "go 100;", 13);
        faultAt(r + "go", 12);
        faultAt(r + "go 1", 14);
        faultAt(r + "go 1 ", 15);
        StringBuilder six = new StringBuilder("round 8 0;");
        for (int s = 0; s < 6; s++) {
            six.append("rider 0 1 ").append(s).append(';');
        }
        reads(six.toString(), 7);
        faultAt(six + "rider", 82);
        faultAt(six + " rider 9 9 9;", 83);
        faultAt(six + "rider 0 1 6;", 82);
    }

    private static void readTakesThePlace() {
        RingRiders x = new RingRiders();
        x.round(9, 3);
        x.rider(1, 1, 8);
        x.horse(8, 1, 1);
        x.seen(0, 0, 0, 3);
        x.note(0, 0, 0, 0, 3);
        x.mark(0, 1, 1, 1, 1);
        x.slip(0, 0, 0, 0);
        x.image(0);
        x.hangs(8);
        x.hangs(5);
        due.is("one may be undone", x.count(10), 1);
        // Seat 0 is at the post in each tick; the sailor on a pony reaches 9 + 2 + 3, and 9 + 3 + 3 in tick 2 and 3.
        String text = "round 5 0;horse 0 5 0;rider 2 9 0;ring 12;go 3;";
        Due.typed(x, text);
        due.is("read", x.read(), 5);
        int[] counts = {5, 1, 0, 0, 15, 3, 3, 0, 0, 0, 0, text.length()};
        for (int what = 0; what < counts.length; what++) {
            due.is("read: count(" + what + ")", x.count(what), counts[what]);
        }
        due.is("the rider's rings", x.of(0, 3), 3);
        due.is("the rider's kind", x.of(0, 0), 2);
        due.is("the fraction stays", x.part(0), 1);
        due.is("status stays", x.status(1), 1);
        due.is("nothing to undo", x.undo(), RingRiders.NO);
        due.is("read again tells the same", x.read(), 5);
        due.is("the tick is told anew", x.count(5), 3);
        due.is("the image stays", x.from(0), 1);
        due.is("the image's seats", x.count(0), 9);
        // A ring that is told behind the ticks hangs as told.
        due.is("items go in their order", Due.told("round 4 0;rider 2 9 0;go 2;ring 3;").count(4), 3);
        due.is("a rider that comes late takes late", Due.told("round 4 0;go 5;rider 2 9 0;go 2;").of(0, 3), 2);
        due.is("a horse told late is so late", Due.told("round 4 0;rider 0 4 0;go 9;horse 0 2 4;go 8;").of(0, 3), 2);
    }

    private static void faultChangesNothing() {
        RingRiders x = new RingRiders();
        x.round(6, 2);
        x.rider(2, 9, 0);
        x.ticks(3);
        x.seen(0, 0, 0, 3);
        Due.typed(x, "round 4 0;rider 2 9 0;ring 2;go 9;go 0;");
        long before = x.digest();
        due.is("a fault at the end", x.read(), -10 - 37);
        due.is("all stays", x.digest(), before);
        due.is("what may be undone stays", x.undo(), 0);
        due.allAre("it is not refused as such", 0, x.status(0), x.status(1), x.status(2));
    }
}
