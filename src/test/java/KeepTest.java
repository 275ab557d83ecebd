/** Promises 36 to 40: image, from, status, count, digest. */
public final class KeepTest {
    private static final Due due = new Due("KeepTest");

    public static void main(String[] args) {
        image();
        imageKeepsWhatMayBeUndone();
        from();
        status();
        count();
        digestOfNew();
        digestOfAll();
        due.end();
    }

    private static RingRiders much() {
        RingRiders x = Due.told("round 5 1;horse 1 4 3;horse 4 2 7;rider 2 9 0;rider 5 3 4;ring 3;go 7;");
        x.seen(1, 2, 3, 4);
        x.note(4, 3, 2, 1, 0);
        x.note(0, 7, 99, 3, 15);
        x.mark(1, 2, 3, 4, 5);
        x.ticks(3);
        x.speed(2);
        return x;
    }

    private static void image() {
        RingRiders x = much();
        due.is("image(0)", x.image(0), 1);
        long first = x.digest();
        x.ticks(9);
        x.changes(0, 2);
        x.hangs(0);
        x.seen(0, 0, 0, 0);
        x.forget(1);
        x.forget(2);
        due.is("image(1)", x.image(1), 1);
        long second = x.digest();
        x.round(12, 3);
        due.is("from(0)", x.from(0), 1);
        due.is("all is as in 0", x.digest(), first);
        x.horse(0, 5, 5);
        x.rider(0, 1, 1);
        due.is("from(1)", x.from(1), 1);
        due.is("all is as in 1", x.digest(), second);
        due.is("from(0) again", x.from(0), 1);
        due.is("0 is as it was", x.digest(), first);
        x.ticks(1);
        due.is("image(0) again", x.image(0), 1);
        long third = x.digest();
        x.round(4, 1);
        x.from(0);
        due.is("the later image", x.digest(), third);
        due.allAre("wrong image", RingRiders.BAD, x.image(2), x.image(-1), x.image(Integer.MAX_VALUE));
        due.is("they count", x.status(0), 3);
        due.is("they change nothing", x.digest(), third);
    }

    private static void imageKeepsWhatMayBeUndone() {
        RingRiders x = much();
        x.image(0);
        due.is("two may be undone", x.count(10), 2);
        x.undo();
        x.undo();
        x.hangs(1);
        x.hangs(2);
        x.hangs(3);
        x.from(0);
        due.is("two again", x.count(10), 2);
        due.is("the speed is undone", x.undo(), 10);
        due.is("speed 1", x.count(3), 1);
        due.is("the ticks are undone", x.undo(), 7);
        due.is("no more", x.undo(), RingRiders.NO);
        x.from(0);
        due.is("the image has them still", x.count(10), 2);
    }

    private static void from() {
        RingRiders x = new RingRiders();
        due.allAre("none was kept", RingRiders.NO, x.from(0), x.from(1));
        due.allAre("wrong from", RingRiders.BAD, x.from(2), x.from(-1), x.from(Integer.MIN_VALUE));
        x.image(0);
        due.is("1 was not kept", x.from(1), RingRiders.NO);
        Due.typed(x, "abc");
        x.rider(0, 5, 0);
        x.slip(0, 0, 0, 0);
        due.is("from(0)", x.from(0), 1);
        due.is("nobody rides", x.count(1), 0);
        due.is("the text stays", x.count(11), 3);
        due.is("the fraction stays", x.part(0), 1);
        due.is("BAD stays", x.status(0), 3);
        due.is("NO stays", x.status(1), 3);
        due.is("image(1) of it", x.image(1), 1);
        due.is("0 is there still", x.from(0), 1);
    }

    private static void status() {
        RingRiders x = new RingRiders();
        due.allAre("at first", 0, x.status(0), x.status(1), x.status(2));
        x.ticks(0);
        x.level(-9);
        x.undo();
        due.is("BAD", x.status(0), 2);
        due.is("NO", x.status(1), 1);
        due.is("FULL", x.status(2), 0);
        due.allAre("another", -1, x.status(3), x.status(-1), x.status(Integer.MAX_VALUE));
        due.is("they count as BAD", x.status(0), 5);
        x.level(7);
        x.read();
        due.is("not so many, and faults, do not", x.status(0) + x.status(1) + x.status(2), 6);
        x.type(1);
        x.clear();
        x.round(4, 1);
        due.is("it stays", x.status(0), 5);
    }

    private static void count() {
        RingRiders x = much();
        x.type(33);
        // Seat 0 is at the post in ticks 5, 10; seat 4 in ticks 1, 6.
        int[] want = {5, 2, 0, 2, 7, 10, 4, 1, 2, 1, 2};
        for (int what = 0; what < want.length; what++) {
            due.is("count(" + what + ")", x.count(what), want[what]);
        }
        due.is("bytes", x.count(11), 71);
        due.allAre("wrong count", RingRiders.BAD, x.count(12), x.count(-1), x.count(Integer.MIN_VALUE));
        due.is("they count", x.status(0), 3);
    }

    private static void digestOfNew() {
        RingRiders x = new RingRiders();
        long want = Due.fold(4, 0, 0, 1, 8, 0, 0, 0, 0, 0, 0, 0, 0, 0, 0, 0, 0, 0, 0, 0, 0, 1);
        due.is("new", x.digest(), want);
        x.ticks(0);
        x.undo();
        due.is("status is not in it", x.digest(), want);
        x.image(0);
        due.is("nor are images", x.digest(), want);
    }

    private static void digestOfAll() {
        RingRiders x = much();
        x.clear();
        x.slip(0, 0, 0, 0);
        due.is("all", x.digest(), Due.fold(5, 2, 0, 2, 7, 10, 4, 1, 2, 1, 2, 0,
                0, 0, 4, 3, 0, 0, 0, 0, 2, 7,
                2, 9, 0, 2, 5, 3, 4, 2,
                1, 2, 3, 4,
                4, 3, 2, 1, 0, 0, 7, 99, 3, 15,
                1, 2, 3, 4, 5,
                1, 1));
    }
}
