import java.util.Random;

/** Runs of drawn calls, the same on the program and on the model, every answer and every digest compared. */
public final class ModelTest {
    private static final Due due = new Due("ModelTest");
    private static final int RUNS = 4000;
    // An object is promised for 512 calls; the last thing that is drawn may type a text of some 150 bytes.
    private static final int CALLS = 340;
    private static final String[] WORDS = {"round", "horse", "rider", "ring", "go"};
    private static final String[] ODD = {"rounds", "r", "x", "100", "-", "A", ";", "21", "13", "000", "\t"};

    private final Random random;
    private final RingRiders x = new RingRiders();
    private final Model y = new Model();
    private final int run;
    private int calls;

    private ModelTest(int run) {
        this.run = run;
        this.random = new Random(run);
    }

    public static void main(String[] args) {
        for (int run = 0; run < RUNS; run++) {
            new ModelTest(run).go();
        }
        due.end();
    }

    private void go() {
        if (random.nextBoolean()) {
            type(text());
            same("read", x.read(), y.read());
        }
        for (int k = 0; calls < CALLS; k++) {
            // Those that tell are drawn as often as those that change, so that states are looked at from all sides.
            switch (random.nextInt(4)) {
                case 0 -> change();
                case 1 -> lookAt();
                case 2 -> guess();
                default -> seldom();
            }
            same("digest behind call " + k, x.digest(), y.digest());
        }
        for (int what = 0; what < 3; what++) {
            same("status " + what, x.status(what), y.status(what));
        }
    }

    private void same(String call, long got, long want) {
        calls++;
        due.is("run " + run + ": " + call, got, want);
    }

    /** A number that is mostly as told, now and then just outside, seldom far outside. */
    private int draw(int lo, int hi) {
        int luck = random.nextInt(60);
        if (luck == 0) {
            return lo - 1;
        }
        if (luck == 1) {
            return hi + 1;
        }
        if (luck == 2) {
            return random.nextInt();
        }
        return lo + random.nextInt(hi - lo + 1);
    }

    private int aSeat() {
        return draw(0, Math.max(0, y.count(0) - 1));
    }

    private int aRider() {
        return draw(0, Math.max(0, y.count(1) - 1));
    }

    private int ticksAhead() {
        return random.nextInt(6) == 0 ? draw(1, 60) : draw(1, 9);
    }

    private void change() {
        switch (random.nextInt(8)) {
            case 0, 1, 2 -> {
                int n = ticksAhead();
                same("ticks(" + n + ")", x.ticks(n), y.ticks(n));
            }
            case 3 -> {
                int v = draw(0, 3);
                same("speed(" + v + ")", x.speed(v), y.speed(v));
            }
            case 4 -> {
                int i = aRider();
                int s = aSeat();
                same("changes(" + i + ", " + s + ")", x.changes(i, s), y.changes(i, s));
            }
            case 5 -> {
                int ring = random.nextBoolean() ? draw(0, 20) : draw(0, 5);
                same("hangs(" + ring + ")", x.hangs(ring), y.hangs(ring));
            }
            case 6 -> same("undo", x.undo(), y.undo());
            default -> {
                int kind = draw(0, 5);
                int arm = draw(1, 9);
                int s = aSeat();
                same("rider(" + kind + ", " + arm + ", " + s + ")", x.rider(kind, arm, s), y.rider(kind, arm, s));
            }
        }
    }

    private void lookAt() {
        int i = aRider();
        int m = random.nextBoolean() ? draw(1, 60) : draw(1, 12);
        int what = draw(0, 1);
        switch (random.nextInt(11)) {
            case 0 -> same("where(" + i + ", " + m + ", " + what + ")", x.where(i, m, what), y.where(i, m, what));
            case 1 -> same("takes(" + i + ")", x.takes(i), y.takes(i));
            case 2 -> {
                int k = draw(-1, 6);
                same("level(" + k + ")", x.level(k), y.level(k));
            }
            case 3 -> same("again", x.again(), y.again());
            case 4 -> same("fast(" + i + ", " + m + ", " + what + ")", x.fast(i, m, what), y.fast(i, m, what));
            case 5 -> same("seat(" + i + ", " + m + ", " + what + ")", x.seat(i, m, what), y.seat(i, m, what));
            case 6 -> {
                int ticks = random.nextInt(12) == 0 ? draw(1, 6) : draw(1, 4);
                int k = draw(-1, Math.max(1, ticks) % 8);
                same("lever(" + i + ", " + ticks + ", " + k + ")", x.lever(i, ticks, k), y.lever(i, ticks, k));
            }
            case 7 -> {
                int other = aRider();
                int k = draw(-1, 3);
                same("hands(" + i + ", " + other + ", " + k + ")", x.hands(i, other, k), y.hands(i, other, k));
            }
            case 8 -> {
                int rings = random.nextInt(4) == 0 ? draw(0, 99) : y.count(1) == 0 ? 0 : y.count(6) / y.count(1);
                int n = draw(0, 6);
                int c = draw(0, 10);
                same("slip(" + i + ", " + rings + ", " + n + ", " + c + ")", x.slip(i, rings, n, c),
                        y.slip(i, rings, n, c));
                same("part(" + what + ")", x.part(what), y.part(what));
            }
            case 9 -> {
                int seed = draw(0, 999999);
                int n = draw(0, 60);
                same("evenings(" + seed + ", " + n + ")", x.evenings(seed, n), y.evenings(seed, n));
            }
            default -> {
                int which = draw(0, 6);
                int s = aSeat();
                same("of(" + i + ", " + which + ")", x.of(i, which), y.of(i, which));
                same("about(" + s + ", " + which + ")", x.about(s, which), y.about(s, which));
            }
        }
    }

    private void guess() {
        int s = aSeat();
        int i = aRider();
        switch (random.nextInt(11)) {
            case 0, 1 -> {
                int t = draw(0, 99);
                int v = draw(0, 3);
                int high = draw(0, random.nextInt(4) == 0 ? 15 : 8);
                same("seen", x.seen(s, t, v, high), y.seen(s, t, v, high));
            }
            case 2, 3 -> {
                int p = draw(0, 7);
                int t = draw(0, 99);
                int v = draw(0, 3);
                int high = draw(0, random.nextInt(4) == 0 ? 15 : 8);
                same("note", x.note(s, p, t, v, high), y.note(s, p, t, v, high));
            }
            case 4, 5 -> {
                int a = draw(1, 9);
                int h = draw(0, 15);
                int r = draw(0, random.nextBoolean() ? 99 : 3);
                int reached = random.nextBoolean() ? a + h : random.nextBoolean() ? (a + h) / 2 : draw(0, 60);
                same("mark", x.mark(i, a, h, r, reached), y.mark(i, a, h, r, reached));
            }
            case 6 -> {
                same("phases(" + s + ")", x.phases(s), y.phases(s));
                same("is(" + s + ")", x.is(s), y.is(s));
                same("kinds(" + i + ")", x.kinds(i), y.kinds(i));
            }
            case 7 -> same("tell(" + s + ")", x.tell(s), y.tell(s));
            case 8 -> same("look(" + s + ")", x.look(s), y.look(s));
            case 9 -> same("ask(" + i + ")", x.ask(i), y.ask(i));
            default -> {
                int what = draw(0, 2);
                same("forget(" + what + ")", x.forget(what), y.forget(what));
            }
        }
    }

    private void seldom() {
        switch (random.nextInt(24)) {
            case 0 -> {
                int n = draw(4, 12);
                int v = draw(0, 3);
                same("round(" + n + ", " + v + ")", x.round(n, v), y.round(n, v));
            }
            case 1, 2, 3, 4, 5, 6 -> {
                int s = aSeat();
                int kind = draw(0, 5);
                int phase = draw(0, 7);
                same("horse(" + s + ", " + kind + ", " + phase + ")", x.horse(s, kind, phase), y.horse(s, kind, phase));
            }
            case 7, 8 -> {
                int i = draw(0, 1);
                same("image(" + i + ")", x.image(i), y.image(i));
            }
            case 9 -> {
                int i = draw(0, 1);
                same("from(" + i + ")", x.from(i), y.from(i));
            }
            case 10, 11 -> {
                if (random.nextBoolean()) {
                    same("clear", x.clear(), y.clear());
                }
                type(text());
                same("read", x.read(), y.read());
            }
            case 12 -> {
                int c = draw(0, 127);
                same("type(" + c + ")", x.type(c), y.type(c));
            }
            case 13 -> {
                int what = draw(0, 2);
                same("status(" + what + ")", x.status(what), y.status(what));
            }
            case 14 -> {
                int what = draw(0, 1);
                same("part(" + what + ")", x.part(what), y.part(what));
            }
            default -> {
                int what = draw(0, 11);
                same("count(" + what + ")", x.count(what), y.count(what));
            }
        }
    }

    private void type(String text) {
        for (int k = 0; k < text.length(); k++) {
            same("type(" + (int) text.charAt(k) + ")", x.type(text.charAt(k)), y.type(text.charAt(k)));
        }
    }

    private int drawWell(int lo, int hi) {
        return lo + random.nextInt(Math.max(1, hi - lo + 1));
    }

    /** A text that mostly tells a round; now and then a token of it is an odd one, or it ends anywhere. */
    private String text() {
        int n = drawWell(4, 12);
        StringBuilder text = new StringBuilder("round " + n + " " + drawWell(0, 3) + ";");
        int items = random.nextInt(12);
        for (int k = 0; k < items; k++) {
            String word = WORDS[1 + random.nextInt(4)];
            text.append(random.nextInt(4) == 0 ? " " : "").append(word).append(' ');
            switch (word) {
                case "horse" -> text.append(drawWell(0, n - 1) + " " + drawWell(0, 5) + " " + drawWell(0, 7));
                case "rider" -> text.append(drawWell(0, 5) + " " + drawWell(1, 9) + " " + drawWell(0, n - 1));
                case "ring" -> text.append(drawWell(0, 20));
                default -> text.append(drawWell(1, 99));
            }
            text.append(random.nextInt(5) == 0 ? " ;" : ";");
        }
        if (random.nextInt(3) == 0) {
            int at = random.nextInt(text.length() + 1);
            String odd = random.nextBoolean() ? ODD[random.nextInt(ODD.length)] : WORDS[random.nextInt(WORDS.length)];
            text.insert(at, odd);
        }
        return random.nextInt(5) == 0 ? text.substring(0, random.nextInt(text.length() + 1)) : text.toString();
    }
}
