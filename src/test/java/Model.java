import java.math.BigInteger;
import java.util.ArrayDeque;
import java.util.ArrayList;
import java.util.Arrays;
import java.util.Deque;
import java.util.List;
import java.util.Map;
import java.util.TreeMap;
import java.util.function.IntBinaryOperator;
import java.util.regex.Matcher;
import java.util.regex.Pattern;

/**
 * The document told a second time, slowly and in another way than the program: kinds as classes under one another,
 * scenes that are never changed, every row of speeds and every way to slip tried, tokens by a pattern.
 */
final class Model {
    /** Horses as classes under one another. */
    private static class Still {
        int high(int u, int v) {
            return 3;
        }
    }

    private static class Gallop extends Still {
        @Override
        int high(int u, int v) {
            return super.high(u, v) + Math.min(u, 8 - u);
        }
    }

    private static final class Cock extends Still {
        @Override
        int high(int u, int v) {
            return super.high(u, v) + 2 * (u / 4);
        }
    }

    private static final class Swan extends Still {
        @Override
        int high(int u, int v) {
            return super.high(u, v) - v;
        }
    }

    private static final class Stallion extends Gallop {
        @Override
        int high(int u, int v) {
            return super.high(u, v) + v;
        }
    }

    private static final class Pony extends Gallop {
        @Override
        int high(int u, int v) {
            return (int) Math.ceil(super.high(u, v) / 2.0);
        }
    }

    /** Riders as classes under one another. */
    private static class Child {
        int reach(int a, int h, int r) {
            return a + h;
        }
    }

    private static class Aunt extends Child {
        @Override
        int reach(int a, int h, int r) {
            return (int) Math.floor(super.reach(a, h, r) / 2.0);
        }
    }

    private static class Sailor extends Child {
        @Override
        int reach(int a, int h, int r) {
            return super.reach(a, h, r) + 3;
        }
    }

    private static final class Bride extends Aunt {
        @Override
        int reach(int a, int h, int r) {
            return super.reach(a, h, r) + Math.min(5, r);
        }
    }

    private static final class Tired extends Sailor {
        @Override
        int reach(int a, int h, int r) {
            return Math.max(0, super.reach(a, h, r) - r);
        }
    }

    private static final class Greedy extends Child {
        @Override
        int reach(int a, int h, int r) {
            return super.reach(a, h, r) * (r == 0 ? 2 : 1);
        }
    }

    private static final List<Still> HORSES =
            List.of(new Still(), new Gallop(), new Cock(), new Swan(), new Stallion(), new Pony());
    private static final List<Child> RIDERS =
            List.of(new Child(), new Aunt(), new Sailor(), new Bride(), new Tired(), new Greedy());

    private static int high(int kind, int t, int p, int v) {
        return HORSES.get(kind).high((t + p) % 8, v);
    }

    private static int reach(int kind, int a, int h, int r) {
        return RIDERS.get(kind).reach(a, h, r);
    }

    private record Horse(int kind, int phase) { }

    private record Rider(int kind, int arm, int seat, int rings) {
        Rider on(int s) {
            return new Rider(kind, arm, s, rings);
        }

        Rider having(int r) {
            return new Rider(kind, arm, seat, r);
        }
    }

    /** A scene is never changed; what happens makes another one. */
    private record Scene(int angle, int speed, int ring, int tick, List<Horse> horses, List<Rider> riders) {
        int seats() {
            return horses.size();
        }

        int place(int i) {
            return (riders.get(i).seat + angle) % seats();
        }

        int highOn(int s) {
            return high(horses.get(s).kind, tick, horses.get(s).phase, speed);
        }

        int reachOf(int i) {
            Rider r = riders.get(i);
            return reach(r.kind, r.arm, highOn(r.seat), r.rings);
        }

        Scene by(int v) {
            return new Scene(angle, v, ring, tick, horses, riders);
        }

        Scene hung(int x) {
            return new Scene(angle, speed, x, tick, horses, riders);
        }

        Scene with(int i, Rider r) {
            List<Rider> all = new ArrayList<>(riders);
            all.set(i, r);
            return new Scene(angle, speed, ring, tick, horses, all);
        }

        Scene turned() {
            return new Scene((angle + speed) % seats(), speed, ring, tick + 1, horses, riders);
        }

        int reacher() {
            for (int i = 0; i < riders.size(); i++) {
                if (place(i) == 0 && reachOf(i) >= ring) {
                    return i;
                }
            }
            return -1;
        }

        Scene taken() {
            int i = reacher();
            if (i < 0) {
                return this;
            }
            Rider r = riders.get(i);
            return with(i, r.having(Math.min(99, r.rings + 1))).hung(Math.min(20, ring + 1));
        }

        int takesInNext(int i) {
            return turned().reacher() == i ? 1 : 0;
        }

        Scene next() {
            return turned().taken();
        }

        int taken(int i, int m) {
            Scene s = this;
            int sum = 0;
            for (int k = 0; k < m; k++) {
                sum += s.takesInNext(i);
                s = s.next();
            }
            return sum;
        }

        List<Integer> rings() {
            return riders.stream().map(Rider::rings).toList();
        }
    }

    private static Scene scene(int n, int v) {
        List<Horse> horses = new ArrayList<>();
        for (int s = 0; s < n; s++) {
            horses.add(new Horse(0, 0));
        }
        return new Scene(0, v, 8, 0, horses, List.of());
    }

    private record Kept(Scene scene, List<Scene> past, List<int[]> seen, List<int[]> notes, List<int[]> marks) { }

    private Scene now = scene(4, 1);
    private Deque<Scene> past = new ArrayDeque<>();
    private List<int[]> seen = new ArrayList<>();
    private List<int[]> notes = new ArrayList<>();
    private List<int[]> marks = new ArrayList<>();
    private final StringBuilder text = new StringBuilder();
    private final Map<Integer, Kept> images = new TreeMap<>();
    private BigInteger above = BigInteger.ZERO;
    private BigInteger below = BigInteger.ONE;
    private final int[] refused = new int[3];

    private static boolean in(int x, int lo, int hi) {
        return lo <= x && x <= hi;
    }

    private boolean seat(int s) {
        return in(s, 0, now.seats() - 1);
    }

    private boolean rider(int i) {
        return in(i, 0, now.riders.size() - 1);
    }

    private int refuse(int answer) {
        refused[-answer - 2]++;
        return answer;
    }

    private int who(Scene sc, int s) {
        for (int i = 0; i < sc.riders.size(); i++) {
            if (sc.riders.get(i).seat == s) {
                return i;
            }
        }
        return -1;
    }

    private void anew(Scene sc) {
        now = sc;
        past.clear();
        seen.clear();
        notes.clear();
        marks.clear();
    }

    private void goOn(Scene sc) {
        past.addLast(now);
        if (past.size() > 8) {
            past.removeFirst();
        }
        now = sc;
    }

    private static Scene withHorse(Scene sc, int s, int kind, int phase) {
        List<Horse> horses = new ArrayList<>(sc.horses);
        horses.set(s, new Horse(kind, phase));
        return new Scene(sc.angle, sc.speed, sc.ring, sc.tick, horses, sc.riders);
    }

    private static Scene withRider(Scene sc, int kind, int arm, int s) {
        List<Rider> riders = new ArrayList<>(sc.riders);
        riders.add(new Rider(kind, arm, s, 0));
        return new Scene(sc.angle, sc.speed, sc.ring, sc.tick, sc.horses, riders);
    }

    private static Scene gone(Scene sc, int n) {
        Scene s = sc;
        for (int k = 0; k < n; k++) {
            s = s.tick < 9999 ? s.next() : s;
        }
        return s;
    }

    int round(int n, int v) {
        if (!in(n, 4, 12) || !in(v, 0, 3)) {
            return refuse(-2);
        }
        int were = now.riders.size();
        anew(scene(n, v));
        return were;
    }

    int horse(int s, int kind, int phase) {
        if (!seat(s) || !in(kind, 0, 5) || !in(phase, 0, 7)) {
            return refuse(-2);
        }
        int was = now.horses.get(s).kind;
        now = withHorse(now, s, kind, phase);
        past.clear();
        return was;
    }

    int rider(int kind, int arm, int s) {
        if (!in(kind, 0, 5) || !in(arm, 1, 9) || !seat(s)) {
            return refuse(-2);
        }
        if (who(now, s) >= 0) {
            return refuse(-3);
        }
        if (now.riders.size() == 6) {
            return refuse(-4);
        }
        now = withRider(now, kind, arm, s);
        past.clear();
        return now.riders.size() - 1;
    }

    int type(int c) {
        if (!in(c, 0, 127)) {
            return refuse(-2);
        }
        if (text.length() == 150) {
            return refuse(-4);
        }
        text.append((char) c);
        return text.length();
    }

    int clear() {
        int had = text.length();
        text.setLength(0);
        return had;
    }

    /** A token: its first place, its text. */
    private record Token(int at, String word) {
        int number() {
            return word.matches("[0-9]{1,2}") ? Integer.parseInt(word) : -1;
        }
    }

    private List<Token> tokens() {
        List<Token> all = new ArrayList<>();
        Matcher m = Pattern.compile("[a-z]+|[0-9]+|;|[^ ]", Pattern.DOTALL).matcher(text);
        while (m.find()) {
            all.add(new Token(m.start(), m.group()));
        }
        all.add(new Token(text.length(), ""));
        return all;
    }

    int read() {
        List<Token> all = tokens();
        Scene sc = null;
        int items = 0;
        int k = 0;
        while (items == 0 || k < all.size() - 1) {
            String word = all.get(k).word;
            int[][] ranges;
            int n = sc == null ? 0 : sc.seats();
            if (sc == null) {
                ranges = word.equals("round") ? new int[][] {{4, 12}, {0, 3}} : null;
            } else if (word.equals("rider") && sc.riders.size() == 6) {
                ranges = null;
            } else {
                ranges = switch (word) {
                    case "horse" -> new int[][] {{0, n - 1}, {0, 5}, {0, 7}};
                    case "rider" -> new int[][] {{0, 5}, {1, 9}, {0, n - 1}};
                    case "ring" -> new int[][] {{0, 20}};
                    case "go" -> new int[][] {{1, 99}};
                    default -> null;
                };
            }
            if (ranges == null) {
                return -10 - all.get(k).at;
            }
            int[] numbers = new int[ranges.length];
            for (int j = 0; j < ranges.length; j++) {
                k++;
                numbers[j] = all.get(k).number();
                boolean taken = word.equals("rider") && j == 2 && who(sc, numbers[j]) >= 0;
                if (!in(numbers[j], ranges[j][0], ranges[j][1]) || taken) {
                    return -10 - all.get(k).at;
                }
            }
            k++;
            if (!all.get(k).word.equals(";")) {
                return -10 - all.get(k).at;
            }
            k++;
            items++;
            sc = switch (word) {
                case "round" -> scene(numbers[0], numbers[1]);
                case "horse" -> withHorse(sc, numbers[0], numbers[1], numbers[2]);
                case "rider" -> withRider(sc, numbers[0], numbers[1], numbers[2]);
                case "ring" -> sc.hung(numbers[0]);
                default -> gone(sc, numbers[0]);
            };
        }
        anew(sc);
        return items;
    }

    int ticks(int n) {
        if (!in(n, 1, 60)) {
            return refuse(-2);
        }
        goOn(gone(now, n));
        return now.angle;
    }

    int speed(int v) {
        if (!in(v, 0, 3)) {
            return refuse(-2);
        }
        if (v == now.speed) {
            return refuse(-3);
        }
        int was = now.speed;
        goOn(now.by(v));
        return was;
    }

    int changes(int i, int s) {
        if (!rider(i) || !seat(s)) {
            return refuse(-2);
        }
        if (who(now, s) >= 0) {
            return refuse(-3);
        }
        int was = now.riders.get(i).seat;
        goOn(now.with(i, now.riders.get(i).on(s)));
        return was;
    }

    int hangs(int x) {
        if (!in(x, 0, 20)) {
            return refuse(-2);
        }
        if (x == now.ring) {
            return refuse(-3);
        }
        int was = now.ring;
        goOn(now.hung(x));
        return was;
    }

    int undo() {
        if (past.isEmpty()) {
            return refuse(-3);
        }
        now = past.removeLast();
        return now.tick;
    }

    int of(int i, int what) {
        if (!rider(i) || !in(what, 0, 6)) {
            return refuse(-2);
        }
        Rider r = now.riders.get(i);
        int[] all = {r.kind, r.arm, r.seat, r.rings, now.place(i), now.highOn(r.seat), now.reachOf(i)};
        return all[what];
    }

    int about(int s, int what) {
        if (!seat(s) || !in(what, 0, 3)) {
            return refuse(-2);
        }
        int[] all = {now.horses.get(s).kind, now.horses.get(s).phase, now.highOn(s), who(now, s)};
        return all[what];
    }

    int where(int i, int m, int what) {
        if (!rider(i) || !in(m, 0, 60) || !in(what, 0, 1)) {
            return refuse(-2);
        }
        Scene s = now;
        for (int k = 0; k < m; k++) {
            s = s.next();
        }
        return what == 0 ? s.place(i) : s.highOn(s.riders.get(i).seat);
    }

    int takes(int i) {
        if (!rider(i)) {
            return refuse(-2);
        }
        for (int m = 1; m <= 60; m++) {
            if (now.taken(i, m) > 0) {
                return m;
            }
        }
        return -1;
    }

    private int kth(List<Integer> all, int k) {
        return k == -1 ? all.size() : k < all.size() ? all.get(k) : -5;
    }

    int level(int k) {
        if (k < -1) {
            refuse(-2);
            return -10;
        }
        List<Integer> pairs = new ArrayList<>();
        for (int pair = 0; pair <= 55; pair++) {
            int i = pair / 10;
            int j = pair % 10;
            if (i < j && rider(j) && now.highOn(now.riders.get(i).seat) == now.highOn(now.riders.get(j).seat)) {
                pairs.add(pair);
            }
        }
        return kth(pairs, k);
    }

    int again() {
        Scene s = now;
        for (int m = 1; m <= 60; m++) {
            s = s.next();
            if (s.angle == now.angle && (s.tick - now.tick) % 8 == 0 && s.rings().equals(now.rings())) {
                return m;
            }
        }
        return -1;
    }

    int fast(int i, int m, int what) {
        if (!rider(i) || !in(m, 1, 60) || !in(what, 0, 1)) {
            return refuse(-2);
        }
        int best = 3;
        for (int v = 2; v >= 0; v--) {
            best = now.by(v).taken(i, m) >= now.by(best).taken(i, m) ? v : best;
        }
        return what == 0 ? best : now.by(best).taken(i, m);
    }

    int seat(int i, int m, int what) {
        if (!rider(i) || !in(m, 1, 60) || !in(what, 0, 1)) {
            return refuse(-2);
        }
        Rider r = now.riders.get(i);
        int best = r.seat;
        int most = now.taken(i, m);
        for (int s = now.seats() - 1; s >= 0; s--) {
            if (s == r.seat || who(now, s) < 0) {
                int got = now.with(i, r.on(s)).taken(i, m);
                if (got > most || got == most && s < best) {
                    most = got;
                    best = s;
                }
            }
        }
        return what == 0 ? best : most;
    }

    int lever(int i, int m, int k) {
        if (!rider(i) || !in(m, 1, 6) || k < -1) {
            refuse(-2);
            return -10;
        }
        int most = -1;
        List<Integer> best = List.of();
        for (int row = 0; row < 1 << 2 * m; row++) {
            Scene s = now;
            int got = 0;
            List<Integer> speeds = new ArrayList<>();
            for (int j = m - 1; j >= 0; j--) {
                int v = row >> 2 * j & 3;
                speeds.add(v);
                got += s.by(v).takesInNext(i);
                s = s.by(v).next();
            }
            if (got > most) {
                most = got;
                best = speeds;
            }
        }
        return k == -1 ? most : kth(best, k);
    }

    private int keep(List<int[]> rows, int most, boolean good, int... row) {
        if (!good) {
            return refuse(-2);
        }
        if (rows.size() == most) {
            return refuse(-4);
        }
        rows.add(row);
        return rows.size();
    }

    int seen(int s, int t, int v, int x) {
        return keep(seen, 5, seat(s) && in(t, 0, 99) && in(v, 0, 3) && in(x, 0, 15), s, t, v, x);
    }

    int note(int s, int p, int t, int v, int x) {
        return keep(notes, 6, seat(s) && in(p, 0, 7) && in(t, 0, 99) && in(v, 0, 3) && in(x, 0, 15), s, p, t, v, x);
    }

    int mark(int i, int a, int h, int r, int x) {
        return keep(marks, 6, rider(i) && in(a, 1, 9) && in(h, 0, 15) && in(r, 0, 99) && in(x, 0, 60), i, a, h, r, x);
    }

    int forget(int what) {
        if (!in(what, 0, 2)) {
            return refuse(-2);
        }
        List<int[]> rows = List.of(seen, notes, marks).get(what);
        int were = rows.size();
        rows.clear();
        return were;
    }

    private List<Integer> phasesOf(int s) {
        List<Integer> all = new ArrayList<>(List.of(0, 1, 2, 3, 4, 5, 6, 7));
        for (int[] row : seen) {
            all.removeIf(p -> row[0] == s && high(now.horses.get(s).kind, row[1], p, row[2]) != row[3]);
        }
        return all;
    }

    private List<Integer> kindsOfHorse(int s) {
        List<Integer> all = new ArrayList<>(List.of(0, 1, 2, 3, 4, 5));
        for (int[] row : notes) {
            all.removeIf(kind -> row[0] == s && high(kind, row[2], row[1], row[3]) != row[4]);
        }
        return all;
    }

    private List<Integer> kindsOfRider(int i) {
        List<Integer> all = new ArrayList<>(List.of(0, 1, 2, 3, 4, 5));
        for (int[] row : marks) {
            all.removeIf(kind -> row[0] == i && reach(kind, row[1], row[2], row[3]) != row[4]);
        }
        return all;
    }

    private static int bits(List<Integer> all) {
        return all.stream().mapToInt(k -> 1 << k).sum();
    }

    /** The least code by which the largest class of like answers is smallest; by(guess, code) is the answer. */
    private static int best(List<Integer> fit, List<Integer> codes, IntBinaryOperator by) {
        if (fit.isEmpty()) {
            return -1;
        }
        int best = -1;
        int fewest = Integer.MAX_VALUE;
        for (int code : codes) {
            Map<Integer, Integer> classes = new TreeMap<>();
            for (int guess : fit) {
                classes.merge(by.applyAsInt(guess, code), 1, Integer::sum);
            }
            int most = classes.values().stream().max(Integer::compare).orElse(0);
            if (most < fewest) {
                fewest = most;
                best = code;
            }
        }
        return best;
    }

    private static List<Integer> codes(int tens, int ones) {
        List<Integer> all = new ArrayList<>();
        for (int code = 0; code < 10 * tens; code++) {
            if (code % 10 < ones) {
                all.add(code);
            }
        }
        return all;
    }

    int phases(int s) {
        return seat(s) ? bits(phasesOf(s)) : refuse(-2);
    }

    int tell(int s) {
        return !seat(s) ? refuse(-2)
                : best(phasesOf(s), codes(8, 4), (p, c) -> high(now.horses.get(s).kind, c / 10, p, c % 10));
    }

    int is(int s) {
        return seat(s) ? bits(kindsOfHorse(s)) : refuse(-2);
    }

    int look(int s) {
        return !seat(s) ? refuse(-2)
                : best(kindsOfHorse(s), codes(8, 4), (k, c) -> high(k, c / 10, now.horses.get(s).phase, c % 10));
    }

    int kinds(int i) {
        return rider(i) ? bits(kindsOfRider(i)) : refuse(-2);
    }

    int ask(int i) {
        return !rider(i) ? refuse(-2)
                : best(kindsOfRider(i), codes(11, 10), (k, c) -> reach(k, now.riders.get(i).arm, c / 10, c % 10));
    }

    int hands(int a, int b, int k) {
        if (!rider(a) || !rider(b) || a == b || k < -1) {
            refuse(-2);
            return -10;
        }
        int[][] one = new int[4][4];
        int[][] other = new int[4][4];
        for (int i = 0; i < 4; i++) {
            for (int j = 0; j < 4; j++) {
                one[i][j] = 2 * now.by((i + j) / 2).taken(a, 8) - i;
                other[i][j] = 2 * now.by((i + j) / 2).taken(b, 8) - j;
            }
        }
        List<Integer> rest = new ArrayList<>();
        for (int i = 0; i < 4; i++) {
            for (int j = 0; j < 4; j++) {
                int best1 = Math.max(Math.max(one[0][j], one[1][j]), Math.max(one[2][j], one[3][j]));
                int best2 = Arrays.stream(other[i]).max().orElseThrow();
                if (one[i][j] == best1 && other[i][j] == best2) {
                    rest.add(10 * i + j);
                }
            }
        }
        return kth(rest, k);
    }

    int slip(int i, int x, int n, int c) {
        if (!rider(i) || !in(x, 0, 99) || !in(n, 0, 6) || !in(c, 0, 10)) {
            return refuse(-2);
        }
        // Whether one slips in a tick is drawn in every tick, whether somebody is at the post or not.
        BigInteger sum = BigInteger.ZERO;
        for (int slips = 0; slips < 1 << n; slips++) {
            Scene s = now;
            for (int k = 0; k < n; k++) {
                s = (slips >> k & 1) == 1 ? s.turned() : s.next();
            }
            if (s.riders.get(i).rings >= x) {
                int often = Integer.bitCount(slips);
                sum = sum.add(BigInteger.valueOf(c).pow(often).multiply(BigInteger.valueOf(10 - c).pow(n - often)));
            }
        }
        BigInteger all = BigInteger.TEN.pow(n);
        BigInteger divisor = sum.gcd(all);
        above = sum.divide(divisor);
        below = all.divide(divisor);
        return 1;
    }

    int evenings(int seed, int n) {
        if (!in(seed, 0, 999999) || !in(n, 0, 60)) {
            return refuse(-2);
        }
        BigInteger x = BigInteger.valueOf(seed);
        Scene s = now;
        int sum = 0;
        for (int k = 0; k < n; k++) {
            x = x.multiply(BigInteger.valueOf(1103515245)).add(BigInteger.valueOf(12345)).mod(BigInteger.TWO.pow(31));
            s = s.by(x.shiftRight(16).intValue() & 3);
            sum += s.turned().reacher() >= 0 ? 1 : 0;
            s = s.next();
        }
        return sum;
    }

    long part(int what) {
        return what == 0 ? above.longValue() : what == 1 ? below.longValue() : refuse(-2);
    }

    private static List<int[]> copy(List<int[]> rows) {
        return new ArrayList<>(rows);
    }

    int image(int i) {
        if (!in(i, 0, 1)) {
            return refuse(-2);
        }
        images.put(i, new Kept(now, List.copyOf(past), copy(seen), copy(notes), copy(marks)));
        return 1;
    }

    int from(int i) {
        if (!in(i, 0, 1)) {
            return refuse(-2);
        }
        Kept kept = images.get(i);
        if (kept == null) {
            return refuse(-3);
        }
        now = kept.scene;
        past = new ArrayDeque<>(kept.past);
        seen = copy(kept.seen);
        notes = copy(kept.notes);
        marks = copy(kept.marks);
        return 1;
    }

    int status(int what) {
        if (!in(what, 0, 2)) {
            refuse(-2);
            return -1;
        }
        return refused[what];
    }

    private int[] counts() {
        int rings = now.rings().stream().mapToInt(Integer::intValue).sum();
        return new int[] {now.seats(), now.riders.size(), now.angle, now.speed, now.ring, now.tick, rings,
            seen.size(), notes.size(), marks.size(), past.size(), text.length()};
    }

    int count(int what) {
        return in(what, 0, 11) ? counts()[what] : refuse(-2);
    }

    long digest() {
        List<Long> all = new ArrayList<>();
        for (int c : counts()) {
            all.add((long) c);
        }
        for (Horse h : now.horses) {
            all.addAll(List.of((long) h.kind, (long) h.phase));
        }
        for (Rider r : now.riders) {
            all.addAll(List.of((long) r.kind, (long) r.arm, (long) r.seat, (long) r.rings));
        }
        for (List<int[]> rows : List.of(seen, notes, marks)) {
            for (int[] row : rows) {
                for (int v : row) {
                    all.add((long) v);
                }
            }
        }
        all.add(above.longValue());
        all.add(below.longValue());
        return Due.fold(all.stream().mapToLong(Long::longValue).toArray());
    }
}
