/** Counts answers and prints those that are not as due; what every test of the project uses. */
final class Due {
    private final String name;
    private int asked;
    private int wrong;

    Due(String name) {
        this.name = name;
    }

    void is(String call, long got, long want) {
        asked++;
        if (got != want) {
            wrong++;
            if (wrong <= 50) {
                System.out.println(name + ": " + call + " answered " + got + ", due is " + want);
            }
        }
    }

    void holds(String what, boolean so) {
        is(what, so ? 1 : 0, 1);
    }

    /** All of these calls answered the same, and each was counted as refused so. */
    void allAre(String calls, long want, long... got) {
        for (int k = 0; k < got.length; k++) {
            is(calls + " (" + k + ")", got[k], want);
        }
    }

    void end() {
        System.out.println(name + ": " + (asked - wrong) + " of " + asked + " answers are as due");
        if (wrong != 0 || asked == 0) {
            System.exit(1);
        }
    }

    static RingRiders typed(RingRiders x, String text) {
        x.clear();
        for (int k = 0; k < text.length(); k++) {
            x.type(text.charAt(k));
        }
        return x;
    }

    /** A new object whose round the text tells. */
    static RingRiders told(String text) {
        RingRiders x = typed(new RingRiders(), text);
        if (x.read() < 0) {
            throw new IllegalStateException("this text should tell a round: " + text);
        }
        return x;
    }

    /** The digest of these numbers, as the document folds them. */
    static long fold(long... numbers) {
        long h = 1811;
        for (long v : numbers) {
            h = 31 * h + v;
        }
        return h;
    }
}
