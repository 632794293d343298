import java.lang.reflect.InvocationTargetException;
import java.lang.reflect.Method;
import java.lang.reflect.Modifier;
import java.util.Arrays;
import java.util.Comparator;
import java.util.Random;

/**
 * That no call throws for any arguments in any state, and that the same calls give the same answers: every public
 * method with numbers from the edges, on two objects side by side, for 512 calls each; then each method with every
 * choice of such numbers, on a new object, one midway and one that is full.
 */
public final class NeverThrows {
    private static final int RUNS = 400;
    private static final int CALLS = 512;
    private static final int STATES = 3;
    private static final int CALLS_ON_ONE = 200;
    private static final int[] FEW_EDGES = {Integer.MIN_VALUE, -1, 0, 1, 5, 6, 59, 60, Integer.MAX_VALUE};
    private static final int[] SOME_EDGES = {Integer.MIN_VALUE, -60, -3, -1, 0, 1, 2, 3, 4, 5, 6, 7, 10, 12, 29, 30, 31, 59, 60, 61, 200, 201, 305,
        Integer.MAX_VALUE - 1, Integer.MAX_VALUE};
    private static final int[] EDGES = {Integer.MIN_VALUE, Integer.MIN_VALUE + 1, -2000000000, -100, -14, -10, -9, -3, -2, -1, 0, 1, 2, 3, 4, 5,
        6, 7, 8, 9, 10, 11, 12, 13, 19, 20, 21, 29, 30, 31, 40, 49, 50, 59, 60, 61, 91, 92, 99, 100, 101, 119, 120, 121, 181, 182, 190, 200, 201, 255, 256,
        300, 303, 305, 310, 1 << 30, Integer.MAX_VALUE - 2, Integer.MAX_VALUE - 1, Integer.MAX_VALUE};

    public static void main(String[] args) throws Exception {
        Method[] face = Arrays.stream(WhichClub.class.getDeclaredMethods()).filter(m -> Modifier.isPublic(m.getModifiers()))
            .sorted(Comparator.comparing(Method::getName)).toArray(Method[]::new);
        int wrong = 0;
        for (int run = 0; run < RUNS && wrong < 10; run++) {
            Random random = new Random(run);
            WhichClub one = new WhichClub();
            WhichClub other = new WhichClub();
            for (int i = 0; i < CALLS; i++) {
                Method m = face[random.nextInt(face.length)];
                Object[] with = numbers(m, random);
                String call = "run " + run + ": " + m.getName() + Arrays.toString(with);
                try {
                    if (!m.invoke(one, with).equals(m.invoke(other, with))) {
                        wrong++;
                        System.out.println(call + " has two answers");
                    }
                } catch (InvocationTargetException e) {
                    wrong++;
                    System.out.println(call + " threw " + e.getCause());
                    break;
                }
            }
        }
        long tuples = 0;
        for (Method m : face) {
            for (int state = 0; state < STATES && wrong < 10; state++) {
                long n = allEdges(m, state);
                wrong += n < 0 ? 1 : 0;
                tuples += n;
            }
        }
        System.out.println(wrong == 0 ? RUNS + " runs and " + tuples + " calls, nothing was thrown" : wrong + " faults");
        if (wrong != 0) {
            System.exit(1);
        }
    }

    private static WhichClub stateOf(int state) {
        return state == 0 ? new WhichClub() : state == 1 ? Checks.midway() : full();
    }

    /** Nothing more goes in, and one is on the green. */
    private static WhichClub full() {
        WhichClub w = Checks.with(303, 300, 0, 3, 151, 200);
        Checks.text(w, "(((((d*c/s%w)))))|-(g-k)<9999");
        Checks.tape(w, "(".repeat(120));
        for (int i = 0; i < 50; i++) {
            w.body(7);
        }
        for (int shelf = 0; shelf < 6; shelf++) {
            w.row(shelf, shelf % 5, 60);
        }
        for (int i = 0; i < 42; i++) {
            w.mend(i % 31, 0, 1 + i / 31);
        }
        w.hit(1, 1);
        w.mend(30, 0, 4);
        return w;
    }

    /** One method with every choice of numbers from the edges, or of fewer of them if it takes many; -1: it threw. */
    private static long allEdges(Method m, int state) throws IllegalAccessException {
        int[] edges = m.getParameterCount() < 3 ? EDGES : m.getParameterCount() == 3 ? SOME_EDGES : FEW_EDGES;
        int[] at = new int[m.getParameterCount()];
        WhichClub w = stateOf(state);
        long called = 0;
        for (boolean isMore = true; isMore; called++) {
            if (called % CALLS_ON_ONE == 0) {
                w = stateOf(state);
            }
            Object[] with = new Object[at.length];
            for (int i = 0; i < at.length; i++) {
                with[i] = m.getParameterTypes()[i] == long.class ? (Object) (long) edges[at[i]] : (Object) edges[at[i]];
            }
            try {
                m.invoke(w, with);
            } catch (InvocationTargetException e) {
                System.out.println(m.getName() + Arrays.toString(with) + " in state " + state + " threw " + e.getCause());
                return -1;
            }
            isMore = false;
            for (int i = 0; i < at.length && !isMore; i++) {
                at[i] = (at[i] + 1) % edges.length;
                isMore = at[i] != 0;
            }
        }
        return called;
    }

    private static Object[] numbers(Method m, Random random) {
        Class<?>[] types = m.getParameterTypes();
        Object[] with = new Object[types.length];
        // small numbers most of the time, or no run would ever get far
        boolean isMild = random.nextInt(3) > 0;
        for (int i = 0; i < with.length; i++) {
            int v = isMild ? random.nextInt(random.nextBoolean() ? 6 : 31) : EDGES[random.nextInt(EDGES.length)];
            if (types[i] == long.class) {
                with[i] = isMild ? (long) v : random.nextLong();
            } else {
                with[i] = v;
            }
        }
        if (m.getName().equals("feed") && isMild) {
            with[0] = (int) "dgcswk0123456789()!-+*/%<=>&|?;".charAt(random.nextInt(31));
        }
        if (m.getName().equals("club") && isMild) {
            with[0] = 10 * random.nextInt(31) + random.nextInt(4);
        }
        return with;
    }
}
