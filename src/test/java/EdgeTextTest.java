/** The edges of promise 7, read, and of the TEXT that tells THE ROUND. */
public final class EdgeTextTest {
    private static final Due due = new Due("EdgeTextTest");
    private static final String FOUR = "round 4 0;";
    private static final String SIX = "rider 0 1 0;rider 0 1 1;rider 0 1 2;rider 0 1 3;rider 0 1 4;rider 0 1 5;";

    public static void main(String[] args) {
        Edge.run(EdgeTextTest.class);
        due.end();
    }

    /** The text is read: so many ITEMS. */
    private static RingRiders reads(String text, int items) {
        RingRiders x = Due.typed(new RingRiders(), text);
        due.is("read \"" + text + "\"", x.read(), items);
        return x;
    }

    /** The text has its FAULT there, and read leaves all as it was, STATUS, too. */
    private static void faultAt(String text, int place) {
        new Edge(due, "\"" + text + "\"", () -> Due.typed(Edge.richOne(), text)).answers(-10 - place, "read");
    }

    @Says("7: THE ROUND is read: how many ITEMS.")
    static void items() {
        reads(FOUR, 1);
        reads(FOUR + "go 1;", 2);
        due.is("150 bytes", reads(FOUR + "go 1;".repeat(28), 29).count(5), 28);
    }

    @Says("7: -10 less the FAULT: all stays.")
    static void faults() {
        faultAt("?", 0);
        faultAt(FOUR + "go 1;".repeat(27) + "go 1?", 149);
        faultAt(FOUR + "go 1;".repeat(27) + "go 1 ", 150);
        // All ahead of the FAULT is right, and is still not taken.
        faultAt("round 12 3;horse 0 5 7;rider 2 9 0;ring 20;go 99;go 0;", 52);
    }

    @Says("T: of ITEMS, each ended by ;")
    static void ends() {
        reads(FOUR + "ring 1;", 2);
        faultAt("round 4 0 horse 0 0 0;", 10);
        faultAt(FOUR + "ring 1 go 1;", 17);
        faultAt(FOUR + "ring 1", 16);
        faultAt(FOUR + ";", 10);
        faultAt(FOUR + "ring 1;;", 17);
        faultAt("round 4;", 7);
        faultAt("round;", 5);
        faultAt(FOUR + "horse 0 0;", 19);
        faultAt(FOUR + "rider 0 1;", 19);
        faultAt(FOUR + "go;", 12);
    }

    @Says({"T: round N SPEED (once, first of all)", "T: round again, anything ahead of it"})
    static void roundOnceAndFirst() {
        faultAt(FOUR + FOUR, 10);
        faultAt(FOUR + "go 1; round 5 1;", 16);
        faultAt("horse 0 0 0;" + FOUR, 0);
        faultAt(" rider 0 1 0;" + FOUR, 1);
        faultAt("ring 8;" + FOUR, 0);
        faultAt("go 1;" + FOUR, 0);
        faultAt(";" + FOUR, 0);
        faultAt("4 " + FOUR, 0);
    }

    @Says("T: also a SEAT that there is not")
    static void roundNumbersAndSeats() {
        due.is("4 seats", reads("round 4 0;", 1).count(0), 4);
        due.is("12 seats", reads("round 12 3;", 1).count(0), 12);
        due.is("speed 0", reads("round 4 0;", 1).count(3), 0);
        due.is("speed 3", reads("round 4 3;", 1).count(3), 3);
        faultAt("round 3 0;", 6);
        faultAt("round 13 0;", 6);
        faultAt("round 0 0;", 6);
        faultAt("round 99 0;", 6);
        faultAt("round 4 4;", 8);
        faultAt("round 4 99;", 8);
        for (int n = 4; n <= 12; n++) {
            String round = "round " + n + " 0;";
            int at = round.length() + 6;
            due.is("a horse on the last of " + n, reads(round + "horse " + (n - 1) + " 5 7;", 2).about(n - 1, 0), 5);
            due.is("a rider on the last of " + n, reads(round + "rider 0 1 " + (n - 1) + ";", 2).about(n - 1, 3), 0);
            faultAt(round + "horse " + n + " 5 7;", at);
            faultAt(round + "rider 0 1 " + n + ";", at + 4);
        }
    }

    @Says({"T: horse s KIND PHASE; rider KIND ARM SEAT", "T: a number not as told"})
    static void horseAndRiderNumbers() {
        RingRiders x = reads(FOUR + "horse 0 0 0;horse 3 5 7;rider 0 1 0;rider 5 9 3;", 5);
        due.is("the horse's kind", x.about(3, 0), 5);
        due.is("the horse's phase", x.about(3, 1), 7);
        due.is("the rider's kind", x.of(1, 0), 5);
        due.is("the rider's arm", x.of(1, 1), 9);
        due.is("the rider's seat", x.of(1, 2), 3);
        due.is("the first one's kind", x.of(0, 0), 0);
        due.is("the first one's arm", x.of(0, 1), 1);
        faultAt(FOUR + "horse 0 6 0;", 18);
        faultAt(FOUR + "horse 0 99 0;", 18);
        faultAt(FOUR + "horse 0 0 8;", 20);
        faultAt(FOUR + "horse 0 0 99;", 20);
        faultAt(FOUR + "rider 6 1 0;", 16);
        faultAt(FOUR + "rider 99 1 0;", 16);
        faultAt(FOUR + "rider 0 0 0;", 18);
        faultAt(FOUR + "rider 0 10 0;", 18);
        // Where a number is due, there is none, or where none is due, there is one.
        faultAt(FOUR + "horse ring 0 0;", 16);
        faultAt(FOUR + "horse 0 0 0 0;", 22);
        faultAt(FOUR + "rider 0 1 0 0;", 22);
        faultAt(FOUR + "go 1 1;", 15);
        faultAt(FOUR + "ring -1;", 15);
    }

    @Says("T: ring x (0 .. 20)")
    static void ringNumbers() {
        due.is("at 0", reads(FOUR + "ring 0;", 2).count(4), 0);
        due.is("at 20", reads(FOUR + "ring 20;", 2).count(4), 20);
        faultAt(FOUR + "ring 21;", 15);
        faultAt(FOUR + "ring 99;", 15);
    }

    @Says("T: go n (TICKS, 1 .. 99)")
    static void goNumbers() {
        due.is("1", reads(FOUR + "go 1;", 2).count(5), 1);
        due.is("99", reads(FOUR + "go 99;", 2).count(5), 99);
        faultAt(FOUR + "go 0;", 13);
        faultAt(FOUR + "go 00;", 13);
        faultAt(FOUR + "go 100;", 13);
    }

    @Says("T: TOKENS: words of letters a .. z")
    static void letters() {
        // Each byte is put behind a word: a letter makes it another word, all others end it.
        for (int c = 0; c <= 127; c++) {
            String text = "round" + (char) c + "4 0;";
            boolean letter = c >= 'a' && c <= 'z';
            if (c == ' ') {
                reads(text, 1);
            } else if (letter) {
                faultAt(text, 0);
            } else if (c < '0' || c > '9') {
                faultAt(text, 5);
            }
        }
        faultAt("ROUND 4 0;", 0);
        faultAt("rounD 4 0;", 0);
    }

    @Says("T: figures (1 or 2 are one number)")
    static void figures() {
        due.is("2 of them", reads("round 04 01;ring 00;", 2).count(3), 1);
        due.is("9 is one", reads(FOUR + "go 9;", 2).count(5), 9);
        due.is("09 is 9", reads(FOUR + "go 09;", 2).count(5), 9);
        due.is("90 is 90", reads(FOUR + "go 90;", 2).count(5), 90);
        faultAt(FOUR + "go 9 9;", 15);
        // The bytes beside the figures, 47 and 58, are none.
        faultAt(FOUR + "go /;", 13);
        faultAt(FOUR + "go :;", 13);
        faultAt(FOUR + "go 9/;", 14);
        faultAt(FOUR + "go 9:;", 14);
    }

    @Says("T: a run of three figures or more (at its first one)")
    static void threeFigures() {
        faultAt(FOUR + "go 001;", 13);
        faultAt(FOUR + "go 123;", 13);
        faultAt(FOUR + "go 1234;", 13);
        faultAt("round 004 0;", 6);
        faultAt("round 4 000;", 8);
        faultAt(FOUR + "horse 000 0 0;", 16);
        faultAt(FOUR + "rider 0 001 0;", 18);
        faultAt(FOUR + "ring 020;", 15);
        faultAt("round " + "0".repeat(144), 6);
        // By 32 bits this one would be 4 again.
        faultAt("round 4294967300 0;", 6);
        faultAt(FOUR + "777", 10);
    }

    @Says("T: blanks (32) between.")
    static void blanks() {
        due.is("many of them", reads("   round   4   0   ;   go   7   ;   ", 2).count(5), 7);
        for (int c : new int[] {0, 9, 10, 11, 13, 31, 33, 127}) {
            faultAt((char) c + FOUR, 0);
            faultAt("round" + (char) c + "4 0;", 5);
            faultAt(FOUR + (char) c, 10);
        }
    }

    @Says({"T: FAULT: the place of the first byte of the first TOKEN that can not stand there", "T: a word that is none"})
    static void firstOfSome() {
        faultAt("rounds 4 0;", 0);
        faultAt("roun 4 0;", 0);
        String[] items = {"horse 0 0 0;", "rider 0 1 0;", "ring 0;", "go 1;"};
        for (String item : items) {
            // Each letter of its word by another one.
            for (int k = 0; k < item.indexOf(' '); k++) {
                faultAt(FOUR + item.substring(0, k) + "q" + item.substring(k + 1), 10);
            }
        }
        for (int k = 0; k < 5; k++) {
            faultAt("round".substring(0, k) + "q" + "round".substring(k + 1) + " 4 0;", 0);
        }
        faultAt(FOUR + "horses 0 0 0;", 10);
        faultAt(FOUR + "  hors 0 0 0;", 12);
        faultAt(FOUR + "riders 0 1 0;", 10);
        faultAt(FOUR + "rings 0;", 10);
        faultAt(FOUR + "g 1;", 10);
        faultAt(FOUR + "goo 1;", 10);
        faultAt(FOUR + "a", 10);
        faultAt(FOUR + "z", 10);
        faultAt(FOUR + "go one;", 13);
        // Of two the first.
        faultAt("round 3 9;", 6);
        faultAt(FOUR + "rider 9 0 9;", 16);
        faultAt(FOUR + "go 0;?", 13);
        faultAt(FOUR + "go 1;?go 0;", 15);
    }

    @Says("T: a 7th rider at its word")
    static void seventhRider() {
        String six = "round 7 0;" + SIX;
        due.is("a sixth", reads(six, 7).count(1), 6);
        faultAt(six + "rider 0 1 6;", 82);
        faultAt(six + "  rider 0 1 6;", 84);
        faultAt(six + "rider 9 9 9;", 82);
        faultAt(six + "rider 0 1 0;", 82);
        faultAt(six + "rider;", 82);
        faultAt(six + "rider", 82);
        faultAt(six + "go 1;rider 0 1 6;", 87);
        due.is("other ITEMS may stand there", reads(six + "horse 6 5 7;ring 3;go 9;", 10).count(5), 9);
    }

    @Says("T: or on which somebody is (rider)")
    static void takenSeat() {
        faultAt(FOUR + "rider 0 1 0;rider 1 2 0;", 32);
        faultAt(FOUR + "rider 0 1 3;rider 0 1 2;rider 5 9 3;", 44);
        faultAt(FOUR + "rider 0 1 0;rider 1 2 00 ;", 32);
        due.is("a horse may", reads(FOUR + "rider 0 1 0;horse 0 5 7;", 3).about(0, 0), 5);
        due.is("a horse may twice", reads(FOUR + "horse 0 5 7;horse 0 4 1;", 3).about(0, 0), 4);
        due.is("all seats", reads(FOUR + "rider 0 1 3;rider 0 1 2;rider 0 1 1;rider 0 1 0;", 5).about(0, 3), 3);
    }

    @Says("T: a byte that begins none, too)")
    static void byteThatBeginsNone() {
        for (int c = 0; c <= 127; c++) {
            String sign = String.valueOf((char) c);
            if (c == ' ') {
                faultAt(sign, 1);
                reads(FOUR + sign, 1);
            } else {
                faultAt(sign, 0);
                faultAt(FOUR + " " + sign, 11);
            }
        }
        faultAt(FOUR + "go ?", 13);
        faultAt(FOUR + "go 5?", 14);
        faultAt(FOUR + "go 5 ?;", 15);
    }

    @Says("T: the TEXT's length, if it ends too early (an empty one, too)")
    static void endsTooEarly() {
        faultAt("", 0);
        faultAt(" ", 1);
        faultAt(" ".repeat(150), 150);
        String text = FOUR + "horse 1 2 3;rider 1 2 3;ring 4;go 5;";
        // Wherever the text is cut between two TOKENS, its length is told; behind a ; it is whole.
        int items = 0;
        for (int length = 1; length <= text.length(); length++) {
            String part = text.substring(0, length);
            if (part.endsWith(";")) {
                items++;
                reads(part, items);
                reads(part + "  ", items);
            } else if (!insideAWord(text, length)) {
                faultAt(part, length);
                faultAt(part + "  ", part.length() + 2);
            }
        }
        due.is("items", items, 5);
    }

    private static boolean insideAWord(String text, int length) {
        return Character.isLetter(text.charAt(length - 1)) && Character.isLetter(text.charAt(length));
    }

    @Says({"T: A ROUND that is read takes the place of all but IMAGES, THE TEXT, THE FRACTION, STATUS",
        "T: (SEEN ones, NOTES, MARKS none; nothing to undo)"})
    static void takesThePlace() {
        RingRiders x = Edge.rich(due).takes(3, "read");
        RingRiders twin = Edge.richOne();
        // The aunt on SEAT 3 of 5 by 3: ANGLES 3, 1, 4, 2; SEAT 3 is at the POST in TICK 4, where she reaches 2.
        int[] counts = {5, 1, 2, 3, 8, 4, 0, 0, 0, 0, 0, 27};
        for (int what = 0; what < counts.length; what++) {
            due.is("behind read: count(" + what + ")", x.count(what), counts[what]);
        }
        for (int s = 0; s < 5; s++) {
            due.is("behind read: kind on " + s, x.about(s, 0), 0);
            due.is("behind read: phase on " + s, x.about(s, 1), 0);
            due.is("behind read: who is on " + s, x.about(s, 3), s == 3 ? 0 : Edge.NONE);
        }
        due.is("nothing to undo", x.undo(), Edge.NO);
        due.is("THE FRACTION stays: above", x.part(0), twin.part(0));
        due.is("THE FRACTION stays: below", x.part(1), twin.part(1));
        due.is("THE TEXT stays", x.read(), 3);
        due.is("the IMAGE stays", x.from(0), 1);
        twin.from(0);
        due.is("all that is in it", x.digest(), twin.digest());
        due.is("what it may undo", x.undo(), twin.undo());
        due.is("no other IMAGE", x.from(1), Edge.NO);
    }
}
