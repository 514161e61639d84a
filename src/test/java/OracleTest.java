import java.util.ArrayList;
import java.util.HashSet;
import java.util.List;
import java.util.Random;
import java.util.Set;

/** Random runs of calls, always the same ones, against a slow solver that follows the document's words. */
public final class OracleTest {
    private static int wrong = 0;

    public static void main(String[] args) {
        for (int run = 0; run < 400; run++) {
            play(run, new Random(1000 + run), 3 + run % 6, 300);
        }
        for (int run = 400; run < 460; run++) {
            play(run, new Random(1000 + run), 12, 512);
        }
        System.out.println(wrong == 0 ? "all answers are as due" : wrong + " answers are not as due");
        if (wrong != 0) {
            System.exit(1);
        }
    }

    private static void play(int run, Random random, int mostBits, int calls) {
        BitSolver x = new BitSolver();
        Oracle y = new Oracle();
        Caller caller = new Caller(random, mostBits);
        for (int i = 0; i < calls && wrong < 20; i++) {
            caller.next(y);
            int got = caller.ask(x);
            int want = caller.ask(y);
            if (got != want) {
                wrong++;
                System.out.println("run " + run + ", call " + i + ": " + caller + " answered " + got + ", due is " + want);
            }
        }
    }

    /** Makes up one call after the other, mostly sensible ones. */
    private static final class Caller {
        private final Random random;
        private final int mostBits;
        private int which, p, q, r;
        private boolean flag;

        Caller(Random random, int mostBits) {
            this.random = random;
            this.mostBits = mostBits;
        }

        void next(Oracle state) {
            flag = random.nextBoolean();
            which = pickCall(state);
            p = pickTerm(state);
            q = pickTerm(state);
            r = pickTerm(state);
            boolean wild = random.nextInt(12) == 0;
            switch (which) {
                case 1: p = wild ? wildNumber() : pickWordBits(state); break;
                case 2: p = wild ? wildNumber() : 1 + random.nextInt(12); q = wild ? wildNumber() : random.nextInt(1 << Math.max(1, Math.min(p, 12))); break;
                case 3: p = wild ? wildNumber() : random.nextInt(20); q = pickTerm(state); r = wild ? wildNumber() : fitting(state, q); break;
                case 4: p = wild ? p : oneBit(state); q = pickTerm(state); r = wild ? r : fitting(state, q); break;
                case 5: q = wild ? wildNumber() : random.nextInt(6); r = wild ? wildNumber() : 1 + random.nextInt(5); break;
                case 6: q = wild ? wildNumber() : 1 + random.nextInt(12); break;
                case 8: case 9: p = wild ? p : oneBit(state); break;
                case 14: q = wild ? wildNumber() : random.nextInt(Math.max(1, state.models() + 1)); break;
                case 15: q = wild ? wildNumber() : random.nextInt(1 << Math.max(1, state.bits(p))); break;
                case 19: q = wild ? q : fitting(state, p); break;
                case 21: p = random.nextInt(10) - 1; break;
                case 22: q = wild ? wildNumber() : random.nextInt(Math.max(1, state.bits(p))); break;
                case 24: p = wild ? p : random.nextInt(3); break;
                case 25: p = random.nextInt(8) - 1; break;
                default: break;
            }
        }

        private int pickCall(Oracle state) {
            int few = state.count(0);
            if (few == 0 || random.nextInt(60) == 0 && state.count(1) < mostBits) {
                return 1;
            }
            if (few < 24 && random.nextInt(3) == 0) {
                return 1 + random.nextInt(6);
            }
            if (random.nextInt(120) == 0) {
                return 0;
            }
            // Claims that leave no models make a dull run: they are closed or released soon.
            if (state.models() == 0 && random.nextInt(3) == 0) {
                return random.nextBoolean() ? 12 : 10;
            }
            return 7 + random.nextInt(19);
        }

        private int pickWordBits(Oracle state) {
            int room = mostBits - state.count(1);
            return room < 1 ? 12 : 1 + random.nextInt(Math.min(room, 5));
        }

        private int pickTerm(Oracle state) {
            int many = state.count(0);
            return random.nextInt(30) == 0 || many == 0 ? wildNumber() : random.nextInt(many);
        }

        private int fitting(Oracle state, int a) {
            for (int i = 0; i < 20; i++) {
                int b = pickTerm(state);
                if (state.bits(b) == state.bits(a)) {
                    return b;
                }
            }
            return pickTerm(state);
        }

        private int oneBit(Oracle state) {
            for (int i = 0; i < 30; i++) {
                int b = pickTerm(state);
                if (state.bits(b) == 1) {
                    return b;
                }
            }
            return pickTerm(state);
        }

        private int wildNumber() {
            int[] wild = {-1, 0, 12, 13, 24, 31, 32, 33, 4096, Integer.MIN_VALUE, Integer.MAX_VALUE, -32};
            return wild[random.nextInt(wild.length)];
        }

        int ask(BitSolver x) {
            switch (which) {
                case 0: return x.clear();
                case 1: return x.word(p);
                case 2: return x.constant(p, q);
                case 3: return x.act(p, q, r);
                case 4: return x.choose(p, q, r);
                case 5: return x.cut(p, q, r);
                case 6: return x.widen(p, q, flag);
                case 7: return x.bits(p);
                case 8: return x.claim(p);
                case 9: return x.assume(p);
                case 10: return x.release();
                case 11: return x.push();
                case 12: return x.pop();
                case 13: return x.models();
                case 14: return x.value(p, q);
                case 15: return x.where(p, q);
                case 16: return x.bound(p, flag);
                case 17: return x.values(p);
                case 18: return x.certain(p);
                case 19: return x.same(p, q);
                case 20: return x.cores();
                case 21: return x.core(p);
                case 22: return x.size(p, q);
                case 23: return x.great();
                case 24: return x.without(p, flag);
                default: return x.count(p);
            }
        }

        int ask(Oracle x) {
            switch (which) {
                case 0: return x.clear();
                case 1: return x.word(p);
                case 2: return x.constant(p, q);
                case 3: return x.act(p, q, r);
                case 4: return x.choose(p, q, r);
                case 5: return x.cut(p, q, r);
                case 6: return x.widen(p, q, flag);
                case 7: return x.bits(p);
                case 8: return x.claim(p);
                case 9: return x.assume(p);
                case 10: return x.release();
                case 11: return x.push();
                case 12: return x.pop();
                case 13: return x.models();
                case 14: return x.value(p, q);
                case 15: return x.where(p, q);
                case 16: return x.bound(p, flag);
                case 17: return x.values(p);
                case 18: return x.certain(p);
                case 19: return x.same(p, q);
                case 20: return x.cores();
                case 21: return x.core(p);
                case 22: return x.size(p, q);
                case 23: return x.great();
                case 24: return x.without(p, flag);
                default: return x.count(p);
            }
        }

        @Override
        public String toString() {
            return "call " + which + " with " + p + ", " + q + ", " + r + ", " + flag;
        }
    }

    /** How a term is made: what = 0 .. 19 an act, and the kinds below. */
    private static final class Made {
        static final int WORD = 100, CONSTANT = 101, CHOOSE = 102, CUT = 103, WIDEN = 104, WIDEN_SIGN = 105;
        final int what, bits, p, q, r;

        Made(int what, int bits, int p, int q, int r) {
            this.what = what;
            this.bits = bits;
            this.p = p;
            this.q = q;
            this.r = r;
        }
    }

    private static final class Oracle {
        private final List<Made> terms = new ArrayList<>();
        private final List<Integer> claims = new ArrayList<>();
        private final List<Integer> assumed = new ArrayList<>();
        private final List<Integer> levels = new ArrayList<>();
        private List<long[]> everything;

        int clear() {
            int were = terms.size();
            terms.clear();
            claims.clear();
            assumed.clear();
            levels.clear();
            everything = null;
            return were;
        }

        private boolean known(int a) {
            return a >= 0 && a < terms.size();
        }

        private int put(int what, int bits, int p, int q, int r) {
            if (terms.size() == 24) {
                return BitSolver.FULL;
            }
            terms.add(new Made(what, bits, p, q, r));
            everything = null;
            return terms.size() - 1;
        }

        int word(int bits) {
            if (bits < 1 || bits > 12) {
                return BitSolver.BAD;
            }
            return count(1) + bits > 12 ? BitSolver.FULL : put(Made.WORD, bits, 0, 0, 0);
        }

        int constant(int bits, int v) {
            if (bits < 1 || bits > 12 || v < 0 || v >= Math.pow(2, bits)) {
                return BitSolver.BAD;
            }
            return put(Made.CONSTANT, bits, v, 0, 0);
        }

        int act(int kind, int a, int b) {
            if (kind < 0 || kind > 19 || !known(a)) {
                return BitSolver.BAD;
            }
            if (kind < 2) {
                return put(kind, bits(a), a, a, 0);
            }
            if (!known(b)) {
                return BitSolver.BAD;
            }
            if (kind == 18) {
                return bits(a) + bits(b) > 12 ? BitSolver.BAD : put(kind, bits(a) + bits(b), a, b, 0);
            }
            if (bits(a) != bits(b)) {
                return BitSolver.BAD;
            }
            return put(kind, kind == 15 || kind == 16 || kind == 17 ? 1 : bits(a), a, b, 0);
        }

        int choose(int c, int a, int b) {
            if (!known(c) || !known(a) || !known(b) || bits(c) != 1 || bits(a) != bits(b)) {
                return BitSolver.BAD;
            }
            return put(Made.CHOOSE, bits(a), c, a, b);
        }

        int cut(int a, int from, int many) {
            if (!known(a) || from < 0 || many < 1 || (long) from + many > bits(a)) {
                return BitSolver.BAD;
            }
            return put(Made.CUT, many, a, from, 0);
        }

        int widen(int a, int bits, boolean sign) {
            if (!known(a) || bits < bits(a) || bits > 12) {
                return BitSolver.BAD;
            }
            return put(sign ? Made.WIDEN_SIGN : Made.WIDEN, bits, a, 0, 0);
        }

        int bits(int a) {
            return known(a) ? terms.get(a).bits : BitSolver.BAD;
        }

        int claim(int a) {
            return add(claims, a, 16);
        }

        int assume(int a) {
            return add(assumed, a, 8);
        }

        private int add(List<Integer> list, int a, int most) {
            if (bits(a) != 1) {
                return BitSolver.BAD;
            }
            if (list.size() == most) {
                return BitSolver.FULL;
            }
            list.add(a);
            return list.size();
        }

        int release() {
            int were = assumed.size();
            assumed.clear();
            return were;
        }

        int push() {
            if (levels.size() == 8) {
                return BitSolver.FULL;
            }
            levels.add(claims.size());
            return levels.size();
        }

        int pop() {
            if (levels.isEmpty()) {
                return BitSolver.BAD;
            }
            int were = levels.remove(levels.size() - 1);
            int gone = 0;
            while (claims.size() > were) {
                claims.remove(claims.size() - 1);
                gone++;
            }
            return gone;
        }

        /** All terms' numbers by each assignment, in order. */
        private List<long[]> all() {
            if (everything == null) {
                everything = new ArrayList<>();
                assign(0, new long[terms.size()]);
            }
            return everything;
        }

        private void assign(int next, long[] numbers) {
            if (next == terms.size()) {
                for (int t = 0; t < terms.size(); t++) {
                    if (terms.get(t).what != Made.WORD) {
                        numbers[t] = number(terms.get(t), numbers);
                    }
                }
                everything.add(numbers.clone());
            } else if (terms.get(next).what != Made.WORD) {
                assign(next + 1, numbers);
            } else {
                for (long v = 0; v < 1L << terms.get(next).bits; v++) {
                    numbers[next] = v;
                    assign(next + 1, numbers);
                }
            }
        }

        private long number(Made t, long[] numbers) {
            long power = 1L << t.bits;
            switch (t.what) {
                case Made.CONSTANT: return t.p;
                case Made.CHOOSE: return numbers[t.p] == 1 ? numbers[t.q] : numbers[t.r];
                case Made.CUT: return numbers[t.p] / (1L << t.q) % power;
                case Made.WIDEN: return numbers[t.p];
                case Made.WIDEN_SIGN: return Math.floorMod(signed(numbers[t.p], bits(t.p)), power);
                default: return act(t.what, bits(t.p), bits(t.q), numbers[t.p], numbers[t.q]);
            }
        }

        private static long signed(long v, int n) {
            return v >= 1L << (n - 1) ? v - (1L << n) : v;
        }

        private static long act(int kind, int n, int nb, long a, long b) {
            long power = 1L << n;
            long as = signed(a, n);
            long bs = signed(b, nb);
            switch (kind) {
                case 0: return power - 1 - a;
                case 1: return (power - a) % power;
                case 2: case 3: case 4: return bitwise(kind, n, a, b);
                case 5: return (a + b) % power;
                case 6: return (a + power - b) % power;
                case 7: return a * b % power;
                case 8: return b == 0 ? power - 1 : Math.floorDiv(a, b);
                case 9: return b == 0 ? a : a - b * Math.floorDiv(a, b);
                case 10: return Math.floorMod(quotient(as, bs), power);
                case 11: return Math.floorMod(as - (bs == 0 ? 0 : bs * quotient(as, bs)), power);
                case 12: case 13: case 14: case 19: return moved(kind, n, a, b);
                case 15: return a == b ? 1 : 0;
                case 16: return a < b ? 1 : 0;
                case 17: return as < bs ? 1 : 0;
                default: return a * (1L << nb) + b;
            }
        }

        private static long quotient(long a, long b) {
            if (b == 0) {
                return a < 0 ? 1 : -1;
            }
            long plain = Math.abs(a) / Math.abs(b);
            return (a < 0) == (b < 0) ? plain : -plain;
        }

        private static long bitwise(int kind, int n, long a, long b) {
            long result = 0;
            for (int i = 0; i < n; i++) {
                int ones = (int) (a >> i & 1) + (int) (b >> i & 1);
                boolean one = kind == 2 ? ones == 2 : kind == 3 ? ones > 0 : ones == 1;
                result += one ? 1L << i : 0;
            }
            return result;
        }

        /** One place after the other. */
        private static long moved(int kind, int n, long a, long b) {
            long high = 1L << (n - 1);
            for (long step = 0; step < b; step++) {
                switch (kind) {
                    case 12: a = a * 2 % (2 * high); break;
                    case 13: a = a / 2; break;
                    case 14: a = a / 2 + (a >= high ? high : 0); break;
                    default: a = a * 2 % (2 * high) + (a >= high ? 1 : 0); break;
                }
            }
            return a;
        }

        private static boolean meets(long[] numbers, List<Integer> needed) {
            for (int a : needed) {
                if (numbers[a] != 1) {
                    return false;
                }
            }
            return true;
        }

        private List<long[]> met(List<Integer> assumptions) {
            List<long[]> result = new ArrayList<>();
            for (long[] numbers : all()) {
                if (meets(numbers, claims) && meets(numbers, assumptions)) {
                    result.add(numbers);
                }
            }
            return result;
        }

        int models() {
            return met(assumed).size();
        }

        int value(int a, int k) {
            if (!known(a)) {
                return BitSolver.BAD;
            }
            List<long[]> met = met(assumed);
            return k < 0 || k >= met.size() ? BitSolver.NONE : (int) met.get(k)[a];
        }

        private List<Integer> numbersOf(int a) {
            List<Integer> result = new ArrayList<>();
            for (long[] numbers : met(assumed)) {
                result.add((int) numbers[a]);
            }
            return result;
        }

        int where(int a, int v) {
            return !known(a) || v < 0 || v >= 1 << bits(a) ? BitSolver.BAD : numbersOf(a).indexOf(v);
        }

        int bound(int a, boolean greatest) {
            if (!known(a)) {
                return BitSolver.BAD;
            }
            List<Integer> sorted = numbersOf(a);
            sorted.sort(null);
            return sorted.isEmpty() ? BitSolver.NONE : sorted.get(greatest ? sorted.size() - 1 : 0);
        }

        int values(int a) {
            return known(a) ? new HashSet<>(numbersOf(a)).size() : BitSolver.BAD;
        }

        int certain(int a) {
            if (!known(a)) {
                return BitSolver.BAD;
            }
            List<Integer> numbers = numbersOf(a);
            int result = 0;
            for (int i = 0; i < bits(a); i++) {
                int ones = 0;
                for (int number : numbers) {
                    ones += number >> i & 1;
                }
                result += ones == 0 || ones == numbers.size() ? 1 << i : 0;
            }
            return numbers.isEmpty() ? BitSolver.NONE : result;
        }

        int same(int a, int b) {
            if (!known(a) || !known(b) || bits(a) != bits(b)) {
                return BitSolver.BAD;
            }
            return numbersOf(a).equals(numbersOf(b)) ? 1 : 0;
        }

        private List<Integer> theCore() {
            List<Integer> left = new ArrayList<>(assumed);
            int place = 0;
            for (int turn = 0; turn < assumed.size(); turn++) {
                List<Integer> fewer = new ArrayList<>(left);
                fewer.remove(place);
                if (met(fewer).isEmpty()) {
                    left = fewer;
                } else {
                    place++;
                }
            }
            return left;
        }

        int cores() {
            return models() > 0 ? BitSolver.NONE : theCore().size();
        }

        int core(int k) {
            if (models() > 0) {
                return BitSolver.NONE;
            }
            List<Integer> core = theCore();
            return k < 0 || k >= core.size() ? BitSolver.NONE : core.get(k);
        }

        int size(int a, int i) {
            if (!known(a) || i < 0 || i >= bits(a)) {
                return BitSolver.BAD;
            }
            StringBuilder table = new StringBuilder();
            for (long[] numbers : all()) {
                table.append((char) ('0' + (numbers[a] >> i & 1)));
            }
            return parts(table.toString());
        }

        int great() {
            StringBuilder table = new StringBuilder();
            for (long[] numbers : all()) {
                table.append(meets(numbers, claims) && meets(numbers, assumed) ? '1' : '0');
            }
            return parts(table.toString());
        }

        /** Parts are the same if they are so as functions of all bits: those that were given do not matter. */
        private static int parts(String table) {
            Set<String> seen = new HashSet<>();
            for (int length = table.length(); length >= 1; length /= 2) {
                for (int start = 0; start < table.length(); start += length) {
                    String part = table.substring(start, start + length);
                    if (part.indexOf('0') >= 0 && part.indexOf('1') >= 0) {
                        seen.add(ofAllBits(part, table.length()));
                    }
                }
            }
            return seen.size();
        }

        private static String ofAllBits(String part, int length) {
            // With many bits the whole text is too long to keep: the shortest text that it repeats tells as much.
            if (length <= 256) {
                return part.repeat(length / part.length());
            }
            String shortest = part;
            while (shortest.length() > 1 && shortest.startsWith(shortest.substring(shortest.length() / 2))) {
                shortest = shortest.substring(shortest.length() / 2);
            }
            return shortest;
        }

        int without(int a, boolean any) {
            if (!known(a) || terms.get(a).what != Made.WORD) {
                return BitSolver.BAD;
            }
            java.util.Map<String, Integer> completions = new java.util.HashMap<>();
            for (long[] numbers : met(assumed)) {
                StringBuilder others = new StringBuilder();
                for (int t = 0; t < terms.size(); t++) {
                    if (t != a && terms.get(t).what == Made.WORD) {
                        others.append(numbers[t]).append(' ');
                    }
                }
                completions.merge(others.toString(), 1, Integer::sum);
            }
            int result = 0;
            for (int many : completions.values()) {
                result += !any || many == 1 << bits(a) ? 1 : 0;
            }
            return result;
        }

        int count(int what) {
            switch (what) {
                case 0: return terms.size();
                case 1: return terms.stream().filter(t -> t.what == Made.WORD).mapToInt(t -> t.bits).sum();
                case 2: return claims.size();
                case 3: return assumed.size();
                case 4: return levels.size();
                default: return BitSolver.BAD;
            }
        }
    }
}
