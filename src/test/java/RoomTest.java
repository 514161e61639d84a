import java.lang.management.ManagementFactory;
import java.lang.reflect.Array;
import java.lang.reflect.Field;
import java.lang.reflect.Modifier;
import java.util.ArrayDeque;
import java.util.Collections;
import java.util.Deque;
import java.util.IdentityHashMap;
import java.util.LinkedHashMap;
import java.util.Map;
import java.util.Random;
import java.util.Set;
import java.util.function.Consumer;
import java.util.function.ToIntFunction;

/**
 * What a run makes: one object with its rows once, and 512 times what the dearest call makes. The room holds
 * 600,000 objects and arrays, 7.3 million fields and elements; a run stays far below, as no call makes anything.
 */
public final class RoomTest {
    private static final int CALLS = 512;
    private static final long MOST_OBJECTS = 600_000 / 100;
    private static final long MOST_CELLS = 7_300_000 / 10;
    private static final int SMALLEST_CELL = 4;

    private static final com.sun.management.ThreadMXBean BEAN =
        (com.sun.management.ThreadMXBean) ManagementFactory.getThreadMXBean();
    private static final Map<String, ToIntFunction<BitSolver>> EACH = new LinkedHashMap<>();
    private static final Map<String, Consumer<BitSolver>> BEFORE = new LinkedHashMap<>();
    private static boolean heated = false;
    private static int wrong = 0;

    public static void main(String[] args) {
        listCalls();
        listStates();
        // The machine itself makes things when it first meets a call, which are not the run's own.
        dearestCall();
        randomRuns();
        heated = true;
        long dearest = dearestCall();
        randomRuns();
        wholeRun(dearest);
        if (wrong != 0) {
            System.exit(1);
        }
        System.out.println("all runs keep to their room");
    }

    private static void due(String what, long got, long most) {
        if (heated && got > most) {
            wrong++;
            System.out.println(what + ": " + got + ", at most " + most + " are due");
        }
    }

    /** Every call of the face in its dearest form; terms 0 and 1 have 12 bits in all states that have terms. */
    private static void listCalls() {
        EACH.put("clear()", x -> x.clear());
        EACH.put("word(12)", x -> x.word(12));
        EACH.put("constant(12, 4095)", x -> x.constant(12, 4095));
        for (int kind = 0; kind < 20; kind++) {
            int k = kind;
            EACH.put("act(" + k + ", 0, 1)", x -> x.act(k, 0, 1));
        }
        EACH.put("act(18, 2, 2)", x -> x.act(18, 2, 2));
        EACH.put("choose(2, 0, 1)", x -> x.choose(2, 0, 1));
        EACH.put("cut(0, 0, 12)", x -> x.cut(0, 0, 12));
        EACH.put("widen(2, 12, true)", x -> x.widen(2, 12, true));
        EACH.put("bits(0)", x -> x.bits(0));
        EACH.put("claim(2)", x -> x.claim(2));
        EACH.put("assume(2)", x -> x.assume(2));
        EACH.put("release()", x -> x.release());
        EACH.put("push()", x -> x.push());
        EACH.put("pop()", x -> x.pop());
        EACH.put("models()", x -> x.models());
        EACH.put("value(0, 0)", x -> x.value(0, 0));
        EACH.put("where(0, 4095)", x -> x.where(0, 4095));
        EACH.put("bound(0, true)", x -> x.bound(0, true));
        EACH.put("values(0)", x -> x.values(0));
        EACH.put("certain(0)", x -> x.certain(0));
        EACH.put("same(0, 1)", x -> x.same(0, 1));
        EACH.put("cores()", x -> x.cores());
        EACH.put("core(0)", x -> x.core(0));
        EACH.put("size(1, 11)", x -> x.size(1, 11));
        EACH.put("great()", x -> x.great());
        EACH.put("without(0, true)", x -> x.without(0, true));
        EACH.put("count(0)", x -> x.count(0));
        EACH.put("bits(-1)", x -> x.bits(-1));
    }

    private static void listStates() {
        BEFORE.put("a new object", x -> { });
        BEFORE.put("a word of 12 bits", x -> x.word(12));
        BEFORE.put("three terms", RoomTest::threeTerms);
        BEFORE.put("all full, with models", x -> full(x, 2));
        BEFORE.put("all full, without models", x -> full(x, 3));
    }

    private static void threeTerms(BitSolver x) {
        x.word(12);
        x.act(7, 0, 0);
        x.cut(1, 2, 1);
    }

    private static void full(BitSolver x, int assumed) {
        threeTerms(x);
        x.act(0, 2, 2);
        for (int i = 4; i < 24; i++) {
            x.act(i % 15, i - 1, i - 1);
        }
        for (int i = 0; i < 8; i++) {
            x.claim(2);
            x.push();
            x.claim(2);
            x.assume(assumed);
        }
    }

    private static long allocated() {
        return BEAN.getCurrentThreadAllocatedBytes();
    }

    /** How many cells the dearest call makes, each on an object of its own, so that nothing is there to be used again. */
    private static long dearestCall() {
        long dearest = 0;
        for (Map.Entry<String, Consumer<BitSolver>> state : BEFORE.entrySet()) {
            for (Map.Entry<String, ToIntFunction<BitSolver>> call : EACH.entrySet()) {
                BitSolver x = new BitSolver();
                long start = allocated();
                state.getValue().accept(x);
                long before = allocated();
                call.getValue().applyAsInt(x);
                long cells = (allocated() - before) / SMALLEST_CELL;
                due("cells made before " + call.getKey() + " by " + state.getKey(), (before - start) / SMALLEST_CELL, 0);
                due("cells made by " + call.getKey() + " after " + state.getKey(), cells, 0);
                dearest = Math.max(dearest, cells);
            }
        }
        return dearest;
    }

    /** Runs of 512 calls with numbers of all sorts: none of the calls makes anything. */
    private static void randomRuns() {
        for (int run = 0; run < 40; run++) {
            Random random = new Random(run);
            BitSolver x = new BitSolver();
            long cells = 0;
            for (int i = 0; i < CALLS; i++) {
                int which = random.nextInt(60);
                int a = random.nextInt(26) - 1;
                int b = random.nextInt(26) - 1;
                int c = random.nextInt(26) - 1;
                boolean flag = random.nextBoolean();
                long before = allocated();
                ask(x, which, a, b, c, flag);
                cells += (allocated() - before) / SMALLEST_CELL;
            }
            due("cells made by the calls of random run " + run, cells, 0);
        }
    }

    private static int ask(BitSolver x, int which, int a, int b, int c, boolean flag) {
        switch (which) {
            case 0: return x.clear();
            case 1: case 2: return x.word(a);
            case 3: return x.constant(a, b);
            case 4: return x.choose(a, b, c);
            case 5: case 6: return x.cut(a, b / 4, 1);
            case 7: return x.widen(a, b, flag);
            case 8: return x.bits(a);
            case 9: case 10: return x.claim(a);
            case 11: case 12: return x.assume(a);
            case 13: return x.release();
            case 14: case 15: return x.push();
            case 16: return x.pop();
            case 17: return x.models();
            case 18: return x.value(a, b);
            case 19: return x.where(a, b);
            case 20: return x.bound(a, flag);
            case 21: return x.values(a);
            case 22: return x.certain(a);
            case 23: return x.same(a, b);
            case 24: return x.cores();
            case 25: return x.core(b);
            case 26: return x.size(a, b);
            case 27: return x.great();
            case 28: return x.without(a, flag);
            case 29: return x.count(a);
            default: return x.act(which - 35, a, flag ? a : b);
        }
    }

    private static void wholeRun(long dearest) {
        long[] held = held(new BitSolver());
        due("objects and arrays of a run", held[0], MOST_OBJECTS);
        due("fields and elements of a run", held[1] + CALLS * dearest, MOST_CELLS);
        System.out.println("a run: " + held[0] + " objects and arrays with " + held[1] + " fields and elements, and "
            + CALLS + " times " + dearest + " by calls");
    }

    /** How many objects and arrays an object is made of, and how many fields and elements these have. */
    private static long[] held(Object root) {
        long[] held = new long[2];
        Set<Object> seen = Collections.newSetFromMap(new IdentityHashMap<>());
        Deque<Object> open = new ArrayDeque<>();
        open.add(root);
        while (!open.isEmpty()) {
            Object one = open.remove();
            if (!seen.add(one)) {
                continue;
            }
            held[0]++;
            held[1] += one.getClass().isArray() ? elements(one, open) : fields(one, open);
        }
        return held;
    }

    private static long elements(Object array, Deque<Object> open) {
        int length = Array.getLength(array);
        if (!array.getClass().getComponentType().isPrimitive()) {
            for (int i = 0; i < length; i++) {
                addIfAny(Array.get(array, i), open);
            }
        }
        return length;
    }

    private static long fields(Object one, Deque<Object> open) {
        long many = 0;
        for (Field f : one.getClass().getDeclaredFields()) {
            if (Modifier.isStatic(f.getModifiers())) {
                continue;
            }
            many++;
            if (!f.getType().isPrimitive()) {
                f.setAccessible(true);
                try {
                    addIfAny(f.get(one), open);
                } catch (IllegalAccessException e) {
                    throw new IllegalStateException(e);
                }
            }
        }
        return many;
    }

    private static void addIfAny(Object one, Deque<Object> open) {
        if (one != null) {
            open.add(one);
        }
    }
}
