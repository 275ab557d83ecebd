import java.lang.reflect.InvocationTargetException;
import java.lang.reflect.Method;
import java.lang.reflect.Modifier;
import java.util.Arrays;
import java.util.Comparator;
import java.util.List;
import java.util.function.Supplier;

/**
 * A state in which edges are tried. Each call is made on a new object in that state; a twin in the same state is spared
 * it, so that what the call leaves as it was can be told by comparing all that both have.
 */
final class Edge {
    static final int NONE = RingRiders.NONE, BAD = RingRiders.BAD, NO = RingRiders.NO, FULL = RingRiders.FULL;
    static final int NOT_SO_MANY = -5, BAD_OF_LIST = -10;

    private final Due due;
    private final String state;
    private final Supplier<RingRiders> made;

    Edge(Due due, String state, Supplier<RingRiders> made) {
        this.due = due;
        this.state = state;
        this.made = made;
    }

    static Edge fresh(Due due) {
        return new Edge(due, "new", RingRiders::new);
    }

    static Edge rich(Due due) {
        return new Edge(due, "rich", Edge::richOne);
    }

    static Edge told(Due due, String text) {
        return new Edge(due, "\"" + text + "\"", () -> Due.told(text));
    }

    /**
     * Seven seats, three riders, and something of all that there is: five that may be undone, SEEN ones (full), a NOTE,
     * a MARK, image 0 but not image 1, a fraction, a text, and a call refused as each of BAD, NO, FULL.
     */
    static RingRiders richOne() {
        RingRiders x = Due.told("round 7 2;horse 0 1 3;horse 2 4 1;horse 5 5 6;rider 2 9 0;rider 3 5 2;rider 0 3 5;ring 4;"
                + "go 9;");
        x.seen(2, 3, 1, 8);
        x.hangs(5);
        x.image(0);
        x.seen(0, 8, 0, 6);
        x.seen(5, 99, 3, 4);
        x.seen(6, 0, 0, 3);
        x.seen(6, 1, 0, 3);
        x.seen(6, 2, 0, 3);
        x.note(2, 1, 2, 3, 9);
        x.mark(1, 5, 4, 1, 5);
        x.ticks(3);
        x.speed(1);
        x.changes(1, 4);
        x.hangs(6);
        x.slip(0, 2, 6, 3);
        x.ticks(0);
        x.speed(1);
        return Due.typed(x, "round 5 3;rider 1 2 3;go 4;");
    }

    /** Runs every test of a class that says a sentence. */
    static void run(Class<?> tests) {
        Method[] all = tests.getDeclaredMethods();
        Arrays.sort(all, Comparator.comparing(Method::getName));
        for (Method m : all) {
            if (m.isAnnotationPresent(Says.class)) {
                invoke(m, null);
            }
        }
    }

    private static Object invoke(Method m, Object on, Object... numbers) {
        try {
            return m.invoke(on, numbers);
        } catch (IllegalAccessException | InvocationTargetException e) {
            throw new IllegalStateException(m.getName() + " could not be called", e);
        }
    }

    private static long call(RingRiders x, String name, int... numbers) {
        Object[] boxed = Arrays.stream(numbers).boxed().toArray();
        List<Method> found = Arrays.stream(RingRiders.class.getDeclaredMethods())
                .filter(m -> m.getName().equals(name) && Modifier.isPublic(m.getModifiers())).toList();
        return ((Number) invoke(found.get(0), x, boxed)).longValue();
    }

    private String label(String name, int... numbers) {
        String list = Arrays.toString(numbers);
        return state + ": " + name + "(" + list.substring(1, list.length() - 1) + ")";
    }

    /** Refused as BAD, NO or FULL: the answer, the count of just these, and nothing else is changed. */
    Edge refuses(int why, String name, int... numbers) {
        return refusesBy(why, why, name, numbers);
    }

    Edge refusesBy(int answer, int why, String name, int... numbers) {
        RingRiders x = made.get();
        RingRiders twin = made.get();
        String label = label(name, numbers);
        due.is(label, call(x, name, numbers), answer);
        for (int what = 0; what < 3; what++) {
            int more = what == BAD - why ? 1 : 0;
            due.is(label + ", then status(" + what + ")", x.status(what), twin.status(what) + more);
        }
        alike(label, x, twin);
        return this;
    }

    /** Refused as BAD by a number that is just outside on either side, and by one that is far outside. */
    Edge outside(String name, int place, int least, int most, int... numbers) {
        return outsideBy(BAD, name, place, least, most, numbers);
    }

    Edge outsideBy(int answer, String name, int place, int least, int most, int... numbers) {
        for (int wrong : new int[] {least - 1, most + 1, Integer.MIN_VALUE, Integer.MAX_VALUE}) {
            int[] changed = numbers.clone();
            changed[place] = wrong;
            refusesBy(answer, BAD, name, changed);
        }
        return this;
    }

    /** Answered, and nothing at all is changed, nor counted as refused. */
    Edge answers(long want, String name, int... numbers) {
        due.is(label(name, numbers), call(made.get(), name, numbers), want);
        return leaves(name, numbers);
    }

    /** Whatever is answered: nothing at all is changed, nor counted as refused. */
    Edge leaves(String name, int... numbers) {
        RingRiders x = made.get();
        RingRiders twin = made.get();
        call(x, name, numbers);
        sameStatus(label(name, numbers), x, twin);
        alike(label(name, numbers), x, twin);
        return this;
    }

    /** Answered, and not counted as refused; what is changed by it is looked at by who calls this. */
    RingRiders takes(long want, String name, int... numbers) {
        RingRiders x = made.get();
        String label = label(name, numbers);
        due.is(label, call(x, name, numbers), want);
        sameStatus(label, x, made.get());
        return x;
    }

    private void sameStatus(String label, RingRiders x, RingRiders twin) {
        for (int what = 0; what < 3; what++) {
            due.is(label + ", then status(" + what + ")", x.status(what), twin.status(what));
        }
    }

    /** All but STATUS: what there is now, what may be undone, both images with what they may undo, the text. */
    private void alike(String label, RingRiders x, RingRiders twin) {
        due.is(label + ", then the digest", x.digest(), twin.digest());
        undoneAlike(label, x, twin);
        for (int i = 0; i < 2; i++) {
            due.is(label + ", then from(" + i + ")", x.from(i), twin.from(i));
            due.is(label + ", then image " + i, x.digest(), twin.digest());
            undoneAlike(label + ", image " + i, x, twin);
        }
        due.is(label + ", then read()", x.read(), twin.read());
        due.is(label + ", then what was read", x.digest(), twin.digest());
    }

    private void undoneAlike(String label, RingRiders x, RingRiders twin) {
        for (int k = 0; k < 9; k++) {
            due.is(label + ", then undo " + k, x.undo(), twin.undo());
            due.is(label + ", then what is undone " + k, x.digest(), twin.digest());
        }
    }
}
