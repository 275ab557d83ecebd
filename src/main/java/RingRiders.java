/** A merry-go-round with a brass ring: who reaches it, when, and by which speeds. See README.md. */
public final class RingRiders {
    public static final int NONE = -1, BAD = -2, NO = -3, FULL = -4;

    // What a call answers that asks for a k-th one where there are fewer, and what stands for BAD there.
    private static final int NOT_SO_MANY = -5, BAD_OF_LIST = -10;
    private static final int FEWEST_SEATS = 4, MOST_SEATS = 12, MOST_RIDERS = 6;
    private static final int MOST_PHASE = 7, PHASES = 8, MOST_KIND = 5, KINDS = 6, MOST_ARM = 9;
    // What is guessed: a horse's phase (by what was seen), its kind (by notes), a rider's kind (by marks).
    private static final int OF_PHASE = 0, OF_HORSE = 1, OF_RIDER = 2;
    private static final int MOST_SPEED = 3, SPEEDS = 4, MOST_RINGS = 99, MOST_RING = 20;
    private static final int LAST_TICK = 9999, MOST_AHEAD = 60, MOST_GO = 99;
    private static final int MOST_LEVER = 6, MOST_SLIP = 6, HANDS_TICKS = 8, TENTHS = 10;
    private static final int MOST_TEXT = 150, MOST_BYTE = 127, MOST_UNDO = 8;
    private static final int MOST_SEEN = 5, MOST_NOTES = 6, MOST_MARKS = 6;
    private static final int MOST_SEEN_TICK = 99, MOST_HIGH = 15, MOST_REACHED = 60;
    private static final int MOST_ASK_HIGH = 10, MOST_ASK_RINGS = 9;
    private static final int IMAGES = 2, COUNTS = 12;
    private static final int MOST_SEED = 999999;
    private static final long SEED_TIMES = 1103515245L, SEED_MORE = 12345L, SEED_BY = 2147483648L;
    private static final long SPEED_FROM = 65536L;
    // Far above the steps by which Euclid's way ends for numbers up to a million.
    private static final int MOST_EUCLID = 100;

    private final State now = new State();
    private final State[] images = new State[IMAGES];
    private final Text text = new Text();
    private long above = 0, below = 1;
    private int refusedBad, refusedNo, refusedFull;

    // Rows that the calls use again, so that a call makes no object.
    private final Round trial = new Round();
    private final Lever best = new Lever();
    private final int[] foretold = new int[PHASES];
    private final int[] oneTakes = new int[SPEEDS];
    private final int[] otherTakes = new int[SPEEDS];

    public RingRiders() {
    }

    // ---- a round

    public int round(int n, int speed) {
        if (!within(n, FEWEST_SEATS, MOST_SEATS) || !within(speed, 0, MOST_SPEED)) {
            return bad();
        }
        int were = now.round.riders;
        now.round.start(n, speed);
        now.dropRest();
        return were;
    }

    public int horse(int s, int kind, int phase) {
        if (!isSeat(s) || !within(kind, 0, MOST_KIND) || !within(phase, 0, MOST_PHASE)) {
            return bad();
        }
        int was = now.round.horseKind[s];
        now.round.putHorse(s, kind, phase);
        now.past.size = 0;
        return was;
    }

    public int rider(int kind, int arm, int s) {
        if (!within(kind, 0, MOST_KIND) || !within(arm, 1, MOST_ARM) || !isSeat(s)) {
            return bad();
        }
        if (now.round.whoIsOn(s) != NONE) {
            return no();
        }
        if (now.round.riders >= MOST_RIDERS) {
            return full();
        }
        now.round.putRider(kind, arm, s);
        now.past.size = 0;
        return now.round.riders - 1;
    }

    public int type(int c) {
        if (!within(c, 0, MOST_BYTE)) {
            return bad();
        }
        if (text.size >= MOST_TEXT) {
            return full();
        }
        text.put(c);
        return text.size;
    }

    public int clear() {
        int had = text.size;
        text.size = 0;
        return had;
    }

    public int read() {
        int items = text.tellRound(trial);
        if (items > 0) {
            now.round.copyOf(trial);
            now.dropRest();
        }
        return items;
    }

    // ---- ticks

    public int ticks(int n) {
        if (!within(n, 1, MOST_AHEAD)) {
            return bad();
        }
        now.past.keep(now.round);
        for (int k = 0; k < n && now.round.tick < LAST_TICK; k++) {
            now.round.step();
        }
        return now.round.angle;
    }

    public int speed(int v) {
        if (!within(v, 0, MOST_SPEED)) {
            return bad();
        }
        int was = now.round.speed;
        if (was == v) {
            return no();
        }
        now.past.keep(now.round);
        now.round.speed = v;
        return was;
    }

    public int changes(int i, int s) {
        if (!isRider(i) || !isSeat(s)) {
            return bad();
        }
        if (now.round.whoIsOn(s) != NONE) {
            return no();
        }
        int was = now.round.seat[i];
        now.past.keep(now.round);
        now.round.seat[i] = s;
        return was;
    }

    public int hangs(int x) {
        if (!within(x, 0, MOST_RING)) {
            return bad();
        }
        int was = now.round.ring;
        if (was == x) {
            return no();
        }
        now.past.keep(now.round);
        now.round.ring = x;
        return was;
    }

    public int undo() {
        if (now.past.size == 0) {
            return no();
        }
        now.past.giveBack(now.round);
        return now.round.tick;
    }

    public int of(int i, int what) {
        if (!isRider(i)) {
            return bad();
        }
        Round r = now.round;
        switch (what) {
            case 0: return r.kind[i];
            case 1: return r.arm[i];
            case 2: return r.seat[i];
            case 3: return r.rings[i];
            case 4: return r.placeOf(i, 0);
            case 5: return r.highOn(r.seat[i], 0);
            case 6: return r.reachOf(i);
            default: return bad();
        }
    }

    public int about(int s, int what) {
        if (!isSeat(s)) {
            return bad();
        }
        Round r = now.round;
        switch (what) {
            case 0: return r.horseKind[s];
            case 1: return r.horsePhase[s];
            case 2: return r.highOn(s, 0);
            case 3: return r.whoIsOn(s);
            default: return bad();
        }
    }

    // ---- who takes it

    public int where(int i, int m, int what) {
        if (!isRider(i) || !within(m, 0, MOST_AHEAD) || !within(what, 0, 1)) {
            return bad();
        }
        Round r = now.round;
        return what == 0 ? r.placeOf(i, m) : r.highOn(r.seat[i], m);
    }

    public int takes(int i) {
        if (!isRider(i)) {
            return bad();
        }
        trial.copyOf(now.round);
        for (int m = 1; m <= MOST_AHEAD; m++) {
            if (trial.step() == i) {
                return m;
            }
        }
        return NONE;
    }

    public int level(int k) {
        if (k < NONE) {
            return badOfList();
        }
        Round r = now.round;
        int found = 0;
        for (int i = 0; i < r.riders; i++) {
            for (int j = i + 1; j < r.riders; j++) {
                if (r.highOn(r.seat[i], 0) == r.highOn(r.seat[j], 0)) {
                    if (found == k) {
                        return 10 * i + j;
                    }
                    found++;
                }
            }
        }
        return k == NONE ? found : NOT_SO_MANY;
    }

    public int again() {
        trial.copyOf(now.round);
        for (int m = 1; m <= MOST_AHEAD; m++) {
            trial.step();
            if (trial.looksLike(now.round)) {
                return m;
            }
        }
        return NONE;
    }

    public int fast(int i, int m, int what) {
        return choose(false, i, m, what);
    }

    public int seat(int i, int m, int what) {
        return choose(true, i, m, what);
    }

    public int lever(int i, int m, int k) {
        if (!isRider(i) || !within(m, 1, MOST_LEVER) || k < NONE) {
            return badOfList();
        }
        if (k >= m) {
            return NOT_SO_MANY;
        }
        trial.copyOf(now.round);
        best.find(trial, i, m);
        return k == NONE ? best.most : best.mostRow[k];
    }

    // ---- of which phase

    public int seen(int s, int t, int v, int x) {
        if (!isSeat(s) || !within(t, 0, MOST_SEEN_TICK) || !within(v, 0, MOST_SPEED) || !within(x, 0, MOST_HIGH)) {
            return bad();
        }
        if (now.seen.isFull()) {
            return full();
        }
        now.seen.add(s, t, v, x, 0);
        return now.seen.size;
    }

    public int phases(int s) {
        return isSeat(s) ? thoseThatFit(OF_PHASE, s) : bad();
    }

    public int tell(int s) {
        return isSeat(s) ? bestLook(OF_PHASE, s) : bad();
    }

    public int note(int s, int p, int t, int v, int x) {
        if (!isSeat(s) || !within(p, 0, MOST_PHASE) || !within(t, 0, MOST_SEEN_TICK)
                || !within(v, 0, MOST_SPEED) || !within(x, 0, MOST_HIGH)) {
            return bad();
        }
        if (now.notes.isFull()) {
            return full();
        }
        now.notes.add(s, p, t, v, x);
        return now.notes.size;
    }

    public int mark(int i, int a, int h, int r, int x) {
        if (!isRider(i) || !within(a, 1, MOST_ARM) || !within(h, 0, MOST_HIGH)
                || !within(r, 0, MOST_RINGS) || !within(x, 0, MOST_REACHED)) {
            return bad();
        }
        if (now.marks.isFull()) {
            return full();
        }
        now.marks.add(i, a, h, r, x);
        return now.marks.size;
    }

    public int forget(int what) {
        switch (what) {
            case 0: return now.seen.drop();
            case 1: return now.notes.drop();
            case 2: return now.marks.drop();
            default: return bad();
        }
    }

    public int is(int s) {
        return isSeat(s) ? thoseThatFit(OF_HORSE, s) : bad();
    }

    public int look(int s) {
        return isSeat(s) ? bestLook(OF_HORSE, s) : bad();
    }

    public int kinds(int i) {
        return isRider(i) ? thoseThatFit(OF_RIDER, i) : bad();
    }

    public int ask(int i) {
        return isRider(i) ? bestLook(OF_RIDER, i) : bad();
    }

    public int hands(int a, int b, int k) {
        if (!isRider(a) || !isRider(b) || a == b || k < NONE) {
            return badOfList();
        }
        runHands(a, b);
        int found = 0;
        for (int i = 0; i <= MOST_SPEED; i++) {
            for (int j = 0; j <= MOST_SPEED; j++) {
                if (pairRests(i, j)) {
                    if (found == k) {
                        return 10 * i + j;
                    }
                    found++;
                }
            }
        }
        return k == NONE ? found : NOT_SO_MANY;
    }

    public int slip(int i, int x, int n, int c) {
        if (!isRider(i) || !within(x, 0, MOST_RINGS) || !within(n, 0, MOST_SLIP) || !within(c, 0, TENTHS)) {
            return bad();
        }
        trial.copyOf(now.round);
        long all = 1;
        for (int k = 0; k < n; k++) {
            all *= TENTHS;
        }
        keepFraction(chance(trial, i, x, c, n), all);
        return 1;
    }

    public int evenings(int seed, int n) {
        if (!within(seed, 0, MOST_SEED) || !within(n, 0, MOST_AHEAD)) {
            return bad();
        }
        trial.copyOf(now.round);
        long x = seed;
        int taken = 0;
        for (int k = 0; k < n; k++) {
            x = (x * SEED_TIMES + SEED_MORE) % SEED_BY;
            trial.speed = (int) (x / SPEED_FROM % SPEEDS);
            if (trial.step() != NONE) {
                taken++;
            }
        }
        return taken;
    }

    // ---- what there is

    public long part(int what) {
        if (!within(what, 0, 1)) {
            return bad();
        }
        return what == 0 ? above : below;
    }

    public int image(int i) {
        if (!within(i, 0, IMAGES - 1)) {
            return bad();
        }
        State kept = images[i];
        if (kept == null) {
            kept = new State();
            images[i] = kept;
        }
        kept.copyOf(now);
        return 1;
    }

    public int from(int i) {
        if (!within(i, 0, IMAGES - 1)) {
            return bad();
        }
        State kept = images[i];
        if (kept == null) {
            return no();
        }
        now.copyOf(kept);
        return 1;
    }

    public int status(int what) {
        switch (what) {
            case 0: return refusedBad;
            case 1: return refusedNo;
            case 2: return refusedFull;
            default:
                bad();
                return -1;
        }
    }

    public int count(int what) {
        return within(what, 0, COUNTS - 1) ? howMany(what) : bad();
    }

    public long digest() {
        long h = 1811;
        for (int what = 0; what < COUNTS; what++) {
            h = 31 * h + howMany(what);
        }
        h = now.round.mixInto(h);
        h = now.seen.mixInto(h);
        h = now.notes.mixInto(h);
        h = now.marks.mixInto(h);
        h = 31 * h + above;
        return 31 * h + below;
    }

    // ---- what the calls share

    private int bad() {
        refusedBad++;
        return BAD;
    }

    private int badOfList() {
        refusedBad++;
        return BAD_OF_LIST;
    }

    private int no() {
        refusedNo++;
        return NO;
    }

    private int full() {
        refusedFull++;
        return FULL;
    }

    private static boolean within(int x, int least, int most) {
        return x >= least && x <= most;
    }

    private boolean isSeat(int s) {
        return within(s, 0, now.round.seats - 1);
    }

    private boolean isRider(int i) {
        return within(i, 0, now.round.riders - 1);
    }

    private int howMany(int what) {
        switch (what) {
            case 0: return now.round.seats;
            case 1: return now.round.riders;
            case 2: return now.round.angle;
            case 3: return now.round.speed;
            case 4: return now.round.ring;
            case 5: return now.round.tick;
            case 6: return now.round.allRings();
            case 7: return now.seen.size;
            case 8: return now.notes.size;
            case 9: return now.marks.size;
            case 10: return now.past.size;
            default: return text.size;
        }
    }

    /** The speed (or the seat) by which a rider takes most, the least of like ones; or how many that are. */
    private int choose(boolean bySeat, int i, int m, int what) {
        if (!isRider(i) || !within(m, 1, MOST_AHEAD) || !within(what, 0, 1)) {
            return bad();
        }
        int choices = bySeat ? now.round.seats : SPEEDS;
        int most = NONE;
        int by = NONE;
        for (int choice = 0; choice < choices; choice++) {
            int taken = takenIf(bySeat, choice, i, m);
            if (taken > most) {
                most = taken;
                by = choice;
            }
        }
        return what == 0 ? by : most;
    }

    /** How many rings a rider takes by a speed, or on a seat; NONE if somebody else is on it. */
    private int takenIf(boolean bySeat, int choice, int i, int m) {
        trial.copyOf(now.round);
        if (bySeat) {
            int there = trial.whoIsOn(choice);
            if (there != NONE && there != i) {
                return NONE;
            }
            trial.seat[i] = choice;
        } else {
            trial.speed = choice;
        }
        int taken = 0;
        for (int k = 0; k < m; k++) {
            if (trial.step() == i) {
                taken++;
            }
        }
        return taken;
    }

    /** As bits: phases, or kinds, of a horse or a rider, by which all that is kept about it is so. */
    private int thoseThatFit(int guess, int one) {
        int fit = 0;
        for (int guessed = 0; guessed < howManyGuessed(guess); guessed++) {
            if (allFits(guess, one, guessed)) {
                fit |= 1 << guessed;
            }
        }
        return fit;
    }

    private static int howManyGuessed(int guess) {
        return guess == OF_PHASE ? PHASES : KINDS;
    }

    private boolean allFits(int guess, int one, int guessed) {
        Rows rows = guess == OF_PHASE ? now.seen : guess == OF_HORSE ? now.notes : now.marks;
        for (int row = 0; row < rows.size; row++) {
            if (rows.at(row, 0) == one && !rowFits(guess, one, rows, row, guessed)) {
                return false;
            }
        }
        return true;
    }

    private boolean rowFits(int guess, int one, Rows rows, int row, int guessed) {
        int b = rows.at(row, 1);
        int c = rows.at(row, 2);
        int d = rows.at(row, 3);
        switch (guess) {
            case OF_PHASE: return Horses.high(now.round.horseKind[one], b, guessed, c) == d;
            case OF_HORSE: return Horses.high(guessed, c, b, d) == rows.at(row, 4);
            default: return Arms.reach(guessed, b, c, d) == rows.at(row, 4);
        }
    }

    /** The look at a horse (tick, speed), or a rider (high, rings), that leaves fewest guesses at the worst. */
    private int bestLook(int guess, int one) {
        int fit = thoseThatFit(guess, one);
        if (fit == 0) {
            return NONE;
        }
        int mostFirst = guess == OF_RIDER ? MOST_ASK_HIGH : PHASES - 1;
        int mostSecond = guess == OF_RIDER ? MOST_ASK_RINGS : MOST_SPEED;
        int fewest = PHASES + 1;
        int by = NONE;
        for (int first = 0; first <= mostFirst; first++) {
            for (int second = 0; second <= mostSecond; second++) {
                int left = mostLeft(guess, one, fit, first, second);
                if (left < fewest) {
                    fewest = left;
                    by = 10 * first + second;
                }
            }
        }
        return by;
    }

    /** How many guesses that fit are left by a look, if it shows what most of them foretell. */
    private int mostLeft(int guess, int one, int fit, int first, int second) {
        int most = 0;
        for (int guessed = 0; guessed < howManyGuessed(guess); guessed++) {
            foretold[guessed] = foretell(guess, one, guessed, first, second);
            if ((fit >> guessed & 1) == 1) {
                most = Math.max(most, 1 + alikeBefore(fit, guessed));
            }
        }
        return most;
    }

    private int foretell(int guess, int one, int guessed, int first, int second) {
        switch (guess) {
            case OF_PHASE: return Horses.high(now.round.horseKind[one], first, guessed, second);
            case OF_HORSE: return Horses.high(guessed, first, now.round.horsePhase[one], second);
            default: return Arms.reach(guessed, now.round.arm[one], first, second);
        }
    }

    private int alikeBefore(int fit, int guessed) {
        int alike = 0;
        for (int k = 0; k < guessed; k++) {
            if ((fit >> k & 1) == 1 && foretold[k] == foretold[guessed]) {
                alike++;
            }
        }
        return alike;
    }

    /** Sixteen pairs of hands make four speeds only, so each speed is run once. */
    private void runHands(int a, int b) {
        for (int v = 0; v < SPEEDS; v++) {
            trial.copyOf(now.round);
            trial.speed = v;
            oneTakes[v] = 0;
            otherTakes[v] = 0;
            for (int k = 0; k < HANDS_TICKS; k++) {
                int who = trial.step();
                if (who == a) {
                    oneTakes[v]++;
                } else if (who == b) {
                    otherTakes[v]++;
                }
            }
        }
    }

    private boolean pairRests(int i, int j) {
        int one = 2 * oneTakes[(i + j) / 2] - i;
        int other = 2 * otherTakes[(i + j) / 2] - j;
        for (int v = 0; v <= MOST_SPEED; v++) {
            if (2 * oneTakes[(v + j) / 2] - v > one || 2 * otherTakes[(i + v) / 2] - v > other) {
                return false;
            }
        }
        return true;
    }

    /** The chance, in parts of ten to the power of left, that rider i has x rings or more then. */
    private static long chance(Round r, int i, int x, int c, int left) {
        if (left <= 0) {
            return r.rings[i] >= x ? 1 : 0;
        }
        int angle = r.angle;
        int ring = r.ring;
        r.turn();
        int who = r.whoReaches();
        long parts = chance(r, i, x, c, left - 1);
        if (who == NONE) {
            parts *= TENTHS;
        } else {
            int had = r.rings[who];
            r.take(who);
            parts = c * parts + (TENTHS - c) * chance(r, i, x, c, left - 1);
            r.giveBack(who, had, ring);
        }
        r.turnBack(angle);
        return parts;
    }

    private void keepFraction(long over, long under) {
        long a = over;
        long b = under;
        for (int k = 0; k < MOST_EUCLID && b > 0; k++) {
            long rest = a % b;
            a = b;
            b = rest;
        }
        if (a > 0) {
            above = over / a;
            below = under / a;
        }
    }

    /** How high horses are: each kind by the kind that it stands under. */
    private static final class Horses {
        static int high(int kind, int t, int p, int v) {
            int u = (t + p) % PHASES;
            int still = 3;
            int gallop = still + (u <= 4 ? u : 8 - u);
            switch (kind) {
                case 1: return gallop;
                case 2: return u >= 4 ? still + 2 : still;
                case 3: return still - v;
                case 4: return gallop + v;
                case 5: return (gallop + 1) / 2;
                default: return still;
            }
        }
    }

    /** How high riders reach: each kind by the kind that it stands under. */
    private static final class Arms {
        static int reach(int kind, int a, int h, int r) {
            int child = a + h;
            int aunt = child / 2;
            int sailor = child + 3;
            switch (kind) {
                case 1: return aunt;
                case 2: return sailor;
                case 3: return aunt + (r < 5 ? r : 5);
                case 4: return sailor > r ? sailor - r : 0;
                case 5: return r == 0 ? 2 * child : child;
                default: return child;
            }
        }
    }

    /** Seats, horses, riders, the ring, the tick. Callers test seats, riders and speeds before they name them. */
    private static final class Round {
        int seats, angle, speed, ring, tick, riders;
        final int[] horseKind = new int[MOST_SEATS];
        final int[] horsePhase = new int[MOST_SEATS];
        final int[] kind = new int[MOST_RIDERS];
        final int[] arm = new int[MOST_RIDERS];
        final int[] seat = new int[MOST_RIDERS];
        final int[] rings = new int[MOST_RIDERS];

        Round() {
            start(FEWEST_SEATS, 1);
        }

        void start(int n, int v) {
            seats = n;
            angle = 0;
            speed = v;
            ring = 8;
            tick = 0;
            riders = 0;
            for (int s = 0; s < MOST_SEATS; s++) {
                putHorse(s, 0, 0);
            }
        }

        void copyOf(Round other) {
            seats = other.seats;
            angle = other.angle;
            speed = other.speed;
            ring = other.ring;
            tick = other.tick;
            riders = other.riders;
            System.arraycopy(other.horseKind, 0, horseKind, 0, MOST_SEATS);
            System.arraycopy(other.horsePhase, 0, horsePhase, 0, MOST_SEATS);
            System.arraycopy(other.kind, 0, kind, 0, MOST_RIDERS);
            System.arraycopy(other.arm, 0, arm, 0, MOST_RIDERS);
            System.arraycopy(other.seat, 0, seat, 0, MOST_RIDERS);
            System.arraycopy(other.rings, 0, rings, 0, MOST_RIDERS);
        }

        void putHorse(int s, int ofKind, int phase) {
            horseKind[s] = ofKind;
            horsePhase[s] = phase;
        }

        void putRider(int ofKind, int withArm, int s) {
            if (riders < MOST_RIDERS) {
                kind[riders] = ofKind;
                arm[riders] = withArm;
                seat[riders] = s;
                rings[riders] = 0;
                riders++;
            }
        }

        int whoIsOn(int s) {
            for (int i = 0; i < riders; i++) {
                if (seat[i] == s) {
                    return i;
                }
            }
            return NONE;
        }

        /** The place that is so far from the post, round and round. */
        private int around(int far) {
            return seats > 0 ? far % seats : 0;
        }

        int placeOf(int i, int behind) {
            return around(seat[i] + angle + speed * behind);
        }

        int highOn(int s, int behind) {
            return Horses.high(horseKind[s], tick + behind, horsePhase[s], speed);
        }

        int reachOf(int i) {
            int s = seat[i];
            return Arms.reach(kind[i], arm[i], Horses.high(horseKind[s], tick, horsePhase[s], speed), rings[i]);
        }

        int allRings() {
            int all = 0;
            for (int i = 0; i < riders; i++) {
                all += rings[i];
            }
            return all;
        }

        /** One tick; who takes the ring in it, or NONE. One who has 99 takes it, too, and still has 99. */
        int step() {
            turn();
            int who = whoReaches();
            if (who != NONE) {
                take(who);
            }
            return who;
        }

        void turn() {
            tick++;
            angle = around(angle + speed);
        }

        void turnBack(int angleBefore) {
            tick--;
            angle = angleBefore;
        }

        int whoReaches() {
            int who = whoIsOn(around(seats - angle));
            return who != NONE && reachOf(who) >= ring ? who : NONE;
        }

        void take(int who) {
            rings[who] = Math.min(rings[who] + 1, MOST_RINGS);
            ring = Math.min(ring + 1, MOST_RING);
        }

        void giveBack(int who, int had, int hung) {
            rings[who] = had;
            ring = hung;
        }

        boolean looksLike(Round other) {
            if (angle != other.angle || tick % PHASES != other.tick % PHASES) {
                return false;
            }
            for (int i = 0; i < riders; i++) {
                if (rings[i] != other.rings[i]) {
                    return false;
                }
            }
            return true;
        }

        long mixInto(long start) {
            long h = start;
            for (int s = 0; s < seats; s++) {
                h = 31 * h + horseKind[s];
                h = 31 * h + horsePhase[s];
            }
            for (int i = 0; i < riders; i++) {
                h = 31 * h + kind[i];
                h = 31 * h + arm[i];
                h = 31 * h + seat[i];
                h = 31 * h + rings[i];
            }
            return h;
        }
    }

    /** The row of speeds by which a rider takes most rings. */
    private static final class Lever {
        int most;
        final int[] mostRow = new int[MOST_LEVER];
        private final int[] row = new int[MOST_LEVER];
        private int who, length;

        void find(Round r, int i, int m) {
            most = NONE;
            who = i;
            length = Math.min(m, MOST_LEVER);
            pull(this, r, 0, 0);
        }

        /** Rows come rising, so only one that is better, not one that is as good, takes the place of the best. */
        private static void pull(Lever lever, Round r, int depth, int taken) {
            if (taken + lever.length - depth <= lever.most) {
                return;
            }
            if (depth >= lever.length) {
                lever.most = taken;
                System.arraycopy(lever.row, 0, lever.mostRow, 0, MOST_LEVER);
                return;
            }
            int angle = r.angle;
            int ring = r.ring;
            for (int v = 0; v <= MOST_SPEED; v++) {
                lever.row[depth] = v;
                r.speed = v;
                r.turn();
                int taker = r.whoReaches();
                if (taker == NONE) {
                    pull(lever, r, depth + 1, taken);
                } else {
                    int had = r.rings[taker];
                    r.take(taker);
                    pull(lever, r, depth + 1, taker == lever.who ? taken + 1 : taken);
                    r.giveBack(taker, had, ring);
                }
                r.turnBack(angle);
            }
        }
    }

    /** What may be undone: rows of what a tick, a speed, a change of seat or a hung ring can alter. */
    private static final class Past {
        private static final int WIDTH = 4 + 2 * MOST_RIDERS;
        int size;
        private final int[] rows = new int[MOST_UNDO * WIDTH];

        void copyOf(Past other) {
            size = other.size;
            System.arraycopy(other.rows, 0, rows, 0, MOST_UNDO * WIDTH);
        }

        void keep(Round r) {
            if (size >= MOST_UNDO) {
                System.arraycopy(rows, WIDTH, rows, 0, (MOST_UNDO - 1) * WIDTH);
                size = MOST_UNDO - 1;
            }
            int at = size * WIDTH;
            rows[at] = r.angle;
            rows[at + 1] = r.speed;
            rows[at + 2] = r.ring;
            rows[at + 3] = r.tick;
            System.arraycopy(r.seat, 0, rows, at + 4, MOST_RIDERS);
            System.arraycopy(r.rings, 0, rows, at + 4 + MOST_RIDERS, MOST_RIDERS);
            size++;
        }

        void giveBack(Round r) {
            if (size <= 0) {
                return;
            }
            size--;
            int at = size * WIDTH;
            r.angle = rows[at];
            r.speed = rows[at + 1];
            r.ring = rows[at + 2];
            r.tick = rows[at + 3];
            System.arraycopy(rows, at + 4, r.seat, 0, MOST_RIDERS);
            System.arraycopy(rows, at + 4 + MOST_RIDERS, r.rings, 0, MOST_RIDERS);
        }
    }

    /** Seen ones, notes or marks, as they come: rows of four or five numbers. */
    private static final class Rows {
        private static final int WIDEST = 5;
        int size;
        private final int width, most;
        private final int[] cells;

        Rows(int width, int most) {
            this.width = width;
            this.most = most;
            this.cells = new int[WIDEST * MOST_NOTES];
        }

        boolean isFull() {
            return size >= most;
        }

        void add(int a, int b, int c, int d, int e) {
            if (size < most) {
                int at = size * WIDEST;
                cells[at] = a;
                cells[at + 1] = b;
                cells[at + 2] = c;
                cells[at + 3] = d;
                cells[at + 4] = e;
                size++;
            }
        }

        int at(int row, int column) {
            return cells[row * WIDEST + column];
        }

        int drop() {
            int were = size;
            size = 0;
            return were;
        }

        void copyOf(Rows other) {
            size = other.size;
            System.arraycopy(other.cells, 0, cells, 0, WIDEST * MOST_NOTES);
        }

        long mixInto(long start) {
            long h = start;
            for (int row = 0; row < size; row++) {
                for (int column = 0; column < width; column++) {
                    h = 31 * h + at(row, column);
                }
            }
            return h;
        }
    }

    /** All that an image keeps. */
    private static final class State {
        final Round round = new Round();
        final Past past = new Past();
        final Rows seen = new Rows(4, MOST_SEEN);
        final Rows notes = new Rows(5, MOST_NOTES);
        final Rows marks = new Rows(5, MOST_MARKS);

        void copyOf(State other) {
            round.copyOf(other.round);
            past.copyOf(other.past);
            seen.copyOf(other.seen);
            notes.copyOf(other.notes);
            marks.copyOf(other.marks);
        }

        /** A new round has nothing to undo, and nothing seen, noted or marked. */
        void dropRest() {
            past.size = 0;
            seen.drop();
            notes.drop();
            marks.drop();
        }
    }

    /** The text that is typed, and how a round is told by it. */
    private static final class Text {
        private static final int END = 0, WORD = 1, NUMBER = 2, STOP = 3, WRONG = 4;
        private static final int NO_ITEM = 0, ROUND = 1, HORSE = 2, RIDER = 3, RING = 4, GO = 5;
        int size;
        private final byte[] bytes = new byte[MOST_TEXT];
        // The token at hand: what it is, its first byte, the byte behind it, its number.
        private int token, first, behind, number;
        // The item at hand: what its word says, and its numbers.
        private int item;
        private final int[] told = new int[3];

        void put(int c) {
            if (size < MOST_TEXT) {
                bytes[size] = (byte) c;
                size++;
            }
        }

        /** How many items told the round, or -10 less the fault; then the round is to be thrown away. */
        int tellRound(Round into) {
            behind = 0;
            next();
            for (int items = 0; items <= MOST_TEXT; items++) {
                if (token == END && items > 0) {
                    return items;
                }
                item = items == 0 ? firstItem() : laterItem();
                if (!isItem(into)) {
                    return -10 - first;
                }
                apply(into);
                next();
            }
            return -10 - first;
        }

        private int firstItem() {
            return isWord("round") ? ROUND : NO_ITEM;
        }

        private int laterItem() {
            if (isWord("horse")) {
                return HORSE;
            }
            if (isWord("rider")) {
                return RIDER;
            }
            if (isWord("ring")) {
                return RING;
            }
            return isWord("go") ? GO : NO_ITEM;
        }

        /** Where this is false, the token at hand is the one that can not stand there. */
        private boolean isItem(Round into) {
            int lastSeat = into.seats - 1;
            switch (item) {
                case ROUND:
                    return isNumber(0, FEWEST_SEATS, MOST_SEATS) && isNumber(1, 0, MOST_SPEED) && isStop();
                case HORSE:
                    return isNumber(0, 0, lastSeat) && isNumber(1, 0, MOST_KIND) && isNumber(2, 0, MOST_PHASE)
                            && isStop();
                case RIDER:
                    return into.riders < MOST_RIDERS && isNumber(0, 0, MOST_KIND) && isNumber(1, 1, MOST_ARM)
                            && isNumber(2, 0, lastSeat) && into.whoIsOn(told[2]) == NONE && isStop();
                case RING:
                    return isNumber(0, 0, MOST_RING) && isStop();
                case GO:
                    return isNumber(0, 1, MOST_GO) && isStop();
                default:
                    return false;
            }
        }

        private void apply(Round into) {
            switch (item) {
                case ROUND:
                    into.start(told[0], told[1]);
                    break;
                case HORSE:
                    into.putHorse(told[0], told[1], told[2]);
                    break;
                case RIDER:
                    into.putRider(told[0], told[1], told[2]);
                    break;
                case RING:
                    into.ring = told[0];
                    break;
                default:
                    for (int k = 0; k < told[0] && into.tick < LAST_TICK; k++) {
                        into.step();
                    }
            }
        }

        private boolean isNumber(int k, int least, int most) {
            next();
            told[k] = number;
            return token == NUMBER && within(number, least, most);
        }

        private boolean isStop() {
            next();
            return token == STOP;
        }

        private boolean isWord(String word) {
            if (token != WORD || behind - first != word.length()) {
                return false;
            }
            for (int k = 0; k < word.length(); k++) {
                if (bytes[first + k] != word.charAt(k)) {
                    return false;
                }
            }
            return true;
        }

        private void next() {
            first = behind;
            while (first < size && bytes[first] == ' ') {
                first++;
            }
            behind = first;
            if (first >= size) {
                token = END;
            } else if (isLetter(bytes[first])) {
                while (behind < size && isLetter(bytes[behind])) {
                    behind++;
                }
                token = WORD;
            } else if (isFigure(bytes[first])) {
                // The wrap-around of a long run is never seen: three figures or more are no number.
                number = 0;
                while (behind < size && isFigure(bytes[behind])) {
                    number = 10 * number + (bytes[behind] - '0');
                    behind++;
                }
                token = behind - first <= 2 ? NUMBER : WRONG;
            } else {
                token = bytes[first] == ';' ? STOP : WRONG;
                behind++;
            }
        }

        private static boolean isLetter(int c) {
            return c >= 'a' && c <= 'z';
        }

        private static boolean isFigure(int c) {
            return c >= '0' && c <= '9';
        }
    }
}
