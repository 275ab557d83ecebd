import java.lang.management.ManagementFactory;
import java.lang.reflect.Constructor;
import java.lang.reflect.Field;
import java.lang.reflect.InvocationTargetException;
import java.lang.reflect.Member;
import java.lang.reflect.Method;
import java.lang.reflect.Modifier;
import java.util.ArrayList;
import java.util.Arrays;
import java.util.List;
import java.util.TreeSet;

/** The face of the class, that no call throws by any numbers, and that calls make hardly an object. */
public final class FaceTest {
    private static final Due due = new Due("FaceTest");
    private static final String FACE = "int round(int,int) int horse(int,int,int) int rider(int,int,int) int type(int) "
            + "int clear() int read() int ticks(int) int speed(int) int changes(int,int) int hangs(int) int undo() "
            + "int of(int,int) int about(int,int) int where(int,int,int) int takes(int) int level(int) int again() "
            + "int fast(int,int,int) int seat(int,int,int) int lever(int,int,int) int seen(int,int,int,int) "
            + "int phases(int) int tell(int) int note(int,int,int,int,int) int mark(int,int,int,int,int) "
            + "int forget(int) int is(int) int look(int) int kinds(int) int ask(int) int hands(int,int,int) "
            + "int slip(int,int,int,int) int evenings(int,int) long part(int) int image(int) int from(int) "
            + "int status(int) int count(int) long digest()";
    private static final int[] NUMBERS = {Integer.MIN_VALUE, -1000, -11, -2, -1, 0, 1, 2, 3, 4, 5, 6, 7, 8, 9, 11, 12,
        60, 99, 127, 150, 999999, Integer.MAX_VALUE};

    public static void main(String[] args) throws ReflectiveOperationException {
        face();
        constants();
        anyNumbers();
        roomOfCalls();
        due.end();
    }

    private static boolean isOpen(Member m) {
        return !Modifier.isPrivate(m.getModifiers()) && !m.isSynthetic();
    }

    private static void face() {
        Class<?> c = RingRiders.class;
        due.holds("public final", Modifier.isPublic(c.getModifiers()) && Modifier.isFinal(c.getModifiers()));
        TreeSet<String> open = new TreeSet<>();
        TreeSet<String> hidden = new TreeSet<>();
        for (Method m : c.getDeclaredMethods()) {
            if (isOpen(m)) {
                String parameters = String.join(",", Arrays.stream(m.getParameterTypes()).map(Class::getName).toList());
                open.add(m.getReturnType() + " " + m.getName() + "(" + parameters + ")");
                due.holds(m + " is public and not static", m.getModifiers() == Modifier.PUBLIC);
            } else {
                hidden.add(m.getName());
            }
        }
        TreeSet<String> told = new TreeSet<>(List.of(FACE.split("(?<=\\)) ")));
        due.holds("the methods " + open, open.equals(told));
        for (String signature : told) {
            String name = signature.substring(signature.indexOf(' ') + 1, signature.indexOf('('));
            due.holds("no private method bears the name " + name, !hidden.contains(name));
        }
        Constructor<?>[] made = c.getDeclaredConstructors();
        due.is("one constructor", made.length, 1);
        due.holds("it is public", made[0].getModifiers() == Modifier.PUBLIC && made[0].getParameterCount() == 0);
        due.is("no interface", c.getInterfaces().length, 0);
        for (Class<?> inside : c.getDeclaredClasses()) {
            int how = inside.getModifiers();
            due.holds(inside + " is static and not open",
                    Modifier.isStatic(how) && !Modifier.isPublic(how) && !Modifier.isProtected(how));
        }
    }

    private static void constants() {
        due.is("NONE", RingRiders.NONE, -1);
        due.is("BAD", RingRiders.BAD, -2);
        due.is("NO", RingRiders.NO, -3);
        due.is("FULL", RingRiders.FULL, -4);
        int open = 0;
        for (Field f : RingRiders.class.getDeclaredFields()) {
            open += isOpen(f) ? 1 : 0;
            due.holds(f + " is final, if static", !Modifier.isStatic(f.getModifiers())
                    || Modifier.isFinal(f.getModifiers()));
        }
        due.is("open fields", open, 4);
    }

    /** Every method with all pairs of numbers in its first two places, the others drawn along, in two states. */
    private static void anyNumbers() throws ReflectiveOperationException {
        RingRiders empty = new RingRiders();
        RingRiders ridden = Due.told("round 12 3;rider 2 9 0;rider 3 9 3;rider 5 1 11;horse 0 4 4;go 9;");
        int calls = 0;
        for (Method m : RingRiders.class.getDeclaredMethods()) {
            if (Modifier.isPublic(m.getModifiers())) {
                for (int a = 0; a < NUMBERS.length; a++) {
                    for (int b = 0; b < NUMBERS.length; b++) {
                        Object[] numbers = new Object[m.getParameterCount()];
                        for (int k = 0; k < numbers.length; k++) {
                            numbers[k] = NUMBERS[(k == 0 ? a : k == 1 ? b : a * k + b + k) % NUMBERS.length];
                        }
                        calls += answers(m, empty, numbers) + answers(m, ridden, numbers);
                    }
                }
            }
        }
        due.holds("many calls", calls > 39 * 500);
    }

    private static int answers(Method m, RingRiders x, Object[] numbers) throws IllegalAccessException {
        try {
            m.invoke(x, numbers);
            return 1;
        } catch (InvocationTargetException e) {
            due.holds(m.getName() + Arrays.toString(numbers) + " threw " + e.getCause(), false);
            return 0;
        }
    }

    private static long bytesMade() {
        return ((com.sun.management.ThreadMXBean) ManagementFactory.getThreadMXBean()).getCurrentThreadAllocatedBytes();
    }

    /** All calls of a run live in one room, so they make no object beside the two images. */
    private static void roomOfCalls() {
        List<RingRiders> warm = new ArrayList<>();
        for (int k = 0; k < 2; k++) {
            RingRiders x = Due.told("round 12 3;rider 2 9 0;rider 3 9 3;rider 5 1 11;horse 0 4 4;go 9;");
            x.image(0);
            x.image(1);
            warm.add(x);
        }
        dearCalls(warm.get(0));
        long before = bytesMade();
        dearCalls(warm.get(1));
        long made = bytesMade() - before;
        due.holds("calls made " + made + " bytes", made < 4096);
    }

    private static void dearCalls(RingRiders x) {
        for (int k = 0; k < 20; k++) {
            x.lever(k % 3, 6, 0);
            x.seat(k % 3, 60, 0);
            x.fast(k % 3, 60, 0);
            x.hands(0, 1, 0);
            x.slip(0, 1, 6, 3);
            x.evenings(k, 60);
            x.ask(0);
            x.look(0);
            x.tell(0);
            x.read();
            x.image(k % 2);
            x.from(k % 2);
            x.ticks(60);
            x.undo();
            x.again();
            x.digest();
        }
    }
}
