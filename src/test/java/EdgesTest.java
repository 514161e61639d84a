import java.util.ArrayList;
import java.util.Arrays;
import java.util.HashMap;
import java.util.HashSet;
import java.util.List;
import java.util.Map;
import java.util.Set;

/**
 * Each sentence of the document that names an edge, by a test of its own: the last value that is taken and the
 * first one that is refused, on both sides, the empty object and the full one; and after each refused call, all
 * that the other calls answer is as it was before. What the acts answer at their edges is in ActEdgesTest.
 */
public final class EdgesTest {
    private static final int NONE = BitSolver.NONE, BAD = BitSolver.BAD, FULL = BitSolver.FULL;
    private static final int LEAST = Integer.MIN_VALUE, MOST = Integer.MAX_VALUE;
    private static final int MOST_CALLS = 512;
    private static final int MOST_PRINTED = 100;

    private static final String[] NEW = {};
    /** a and b of 3 and 2 bits; a is less than 5 and odd: 8 models, a being 1 or 3. */
    private static final String[] MET = {
        "word(3)", "word(2)", "constant(3, 5)", "act(16, 0, 2)", "cut(0, 0, 1)", "act(0, 4, 0)", "widen(1, 3, true)",
        "claim(3)", "push()", "claim(4)", "assume(3)",
    };
    /** As MET, but a shall be even, too: no models, and the core is term 5 alone. */
    private static final String[] UNMET = joined(MET, "assume(5)");
    /** 24 terms, but 2 bits of variables alone; term 0 has 2 bits, term 1 is 1 and term 2 is 0. */
    private static final String[] ALL_TERMS = joined(new String[] {"word(2)", "constant(1, 1)", "constant(1, 0)", "claim(1)"},
        times(21, "constant(3, 6)"));
    /** 12 bits of variables, but 3 terms alone; term 2 has one bit. */
    private static final String[] ALL_BITS = {"word(12)", "constant(12, 9)", "act(16, 0, 1)", "claim(2)", "push()"};
    /** 12 bits of variables and 24 terms: term 4 claims that a times b is c, 5 is whether a is less than b, 6 whether not. */
    private static final String[] ALL_MADE = {
        "word(4)", "word(4)", "word(4)", "act(7, 0, 1)", "act(15, 3, 2)", "act(16, 0, 1)", "act(0, 5, 0)", "act(18, 0, 1)",
        "act(18, 7, 2)", "act(10, 0, 1)", "act(11, 0, 1)", "constant(12, 4095)", "constant(1, 1)", "constant(1, 0)",
        "choose(5, 0, 1)", "cut(8, 3, 7)", "widen(9, 9, true)", "act(19, 0, 1)", "act(14, 0, 1)", "act(12, 0, 1)",
        "act(13, 0, 1)", "act(17, 0, 1)", "act(1, 0, 0)", "act(6, 0, 1)",
    };
    /** All is full: 16 claims, two in each of 8 levels; 120 models, those of a less than b. */
    private static final String[] ALL_FULL = joined(joined(ALL_MADE, times(8, "push()", "claim(4)", "claim(12)")),
        joined(times(7, "assume(12)"), "assume(5)"));
    /** All is full, and there are no models: terms 5 and 6 are the core. */
    private static final String[] FULL_UNMET = joined(joined(ALL_MADE, times(8, "push()", "claim(4)", "claim(12)")),
        joined(joined(new String[] {"assume(5)"}, times(6, "assume(12)")), "assume(6)"));
    private static final String[][] STATES = {NEW, MET, UNMET, ALL_TERMS, ALL_BITS, ALL_FULL, FULL_UNMET};

    private static final Map<String[], List<List<Integer>>> SEEN = new HashMap<>();
    private static String sentence = "";
    private static int sentences = 0;
    private static int wrong = 0;

    public static void main(String[] args) {
        states();
        termNumbers();
        termBits();
        assignments();
        claimsLevelsAssumed();
        newObject();
        clear();
        word();
        constant();
        act();
        actOfEighteen();
        choose();
        cut();
        widen();
        bits();
        claim();
        assume();
        release();
        push();
        pop();
        models();
        value();
        where();
        bound();
        values();
        certain();
        same();
        cores();
        core();
        size();
        great();
        without();
        count();
        badBeforeFull();
        lastCalls();
        anyNumbers();
        System.out.println(sentences + " sentences: " + (wrong == 0 ? "all answers are as due" : wrong + " answers are not as due"));
        if (wrong != 0) {
            System.exit(1);
        }
    }

    // ---- How a run is told, made and looked at.

    /** A call as it is written: "act(5, 0, 1)"; true and false are 1 and 0. */
    private static final class Call {
        private final String text;
        private final String name;
        private final int[] numbers = new int[3];

        Call(String text) {
            this.text = text;
            int open = text.indexOf('(');
            name = text.substring(0, open);
            String inside = text.substring(open + 1, text.length() - 1).replace("true", "1").replace("false", "0");
            if (!inside.isEmpty()) {
                String[] parts = inside.split(", ");
                for (int i = 0; i < parts.length; i++) {
                    numbers[i] = Integer.parseInt(parts[i]);
                }
            }
        }

        int ask(BitSolver x) {
            int p = numbers[0], q = numbers[1], r = numbers[2];
            switch (name) {
                case "clear": return x.clear();
                case "word": return x.word(p);
                case "constant": return x.constant(p, q);
                case "act": return x.act(p, q, r);
                case "choose": return x.choose(p, q, r);
                case "cut": return x.cut(p, q, r);
                case "widen": return x.widen(p, q, r == 1);
                case "bits": return x.bits(p);
                case "claim": return x.claim(p);
                case "assume": return x.assume(p);
                case "release": return x.release();
                case "push": return x.push();
                case "pop": return x.pop();
                case "models": return x.models();
                case "value": return x.value(p, q);
                case "where": return x.where(p, q);
                case "bound": return x.bound(p, q == 1);
                case "values": return x.values(p);
                case "certain": return x.certain(p);
                case "same": return x.same(p, q);
                case "cores": return x.cores();
                case "core": return x.core(p);
                case "size": return x.size(p, q);
                case "great": return x.great();
                case "without": return x.without(p, q == 1);
                case "count": return x.count(p);
                default: throw new IllegalArgumentException(text);
            }
        }
    }

    /** A new object; no more is asked of it than the document lets one ask. */
    private static final class Run {
        private final BitSolver x = new BitSolver();
        private int calls = 0;

        Run(String[] before) {
            for (String call : before) {
                ask(call);
            }
        }

        int ask(String call) {
            calls++;
            if (calls > MOST_CALLS) {
                throw new IllegalStateException("a test asks too much of one object");
            }
            return new Call(call).ask(x);
        }
    }

    private static String[] joined(String[] first, String... second) {
        String[] all = Arrays.copyOf(first, first.length + second.length);
        System.arraycopy(second, 0, all, first.length, second.length);
        return all;
    }

    private static String[] times(int many, String... calls) {
        String[] all = {};
        for (int i = 0; i < many; i++) {
            all = joined(all, calls);
        }
        return all;
    }

    private static void sentence(String text) {
        sentence = text;
        sentences++;
    }

    /** The first faults are enough to read; all are counted. */
    private static void fault(String text) {
        wrong++;
        if (wrong <= MOST_PRINTED) {
            System.out.println("'" + sentence + "': " + text);
        }
    }

    private static void due(String call, String[] before, int got, int want) {
        if (got != want) {
            fault(call + " after " + String.join(" ", before) + " answered " + got + ", due is " + want);
        }
    }

    /** On a new object that has been through the calls before, the call has this answer. */
    private static void taken(String[] before, String call, int want) {
        due(call, before, new Run(before).ask(call), want);
    }

    /** A run on one object: calls, each with the answer that is due. */
    private static void run(String[] before, Object... callsAndAnswers) {
        Run run = new Run(before);
        String[] made = before;
        for (int i = 0; i + 1 < callsAndAnswers.length; i += 2) {
            String call = (String) callsAndAnswers[i];
            due(call, made, run.ask(call), (Integer) callsAndAnswers[i + 1]);
            made = joined(made, call);
        }
    }

    /** Each of the calls has this answer, and all that can be asked then is as if it had not been made. */
    private static void refused(String[] before, int want, String... calls) {
        for (String call : calls) {
            taken(before, call, want);
            unchanged(before, call, joined(before, call));
            // A solver may keep what it has found: what is kept is to stay as well.
            unchanged(before, call, joined(before, "models()", call));
        }
    }

    private static void unchanged(String[] before, String call, String[] made) {
        List<List<Integer>> due = SEEN.computeIfAbsent(before, b -> look(b));
        List<List<Integer>> got = look(made);
        if (got.size() != due.size()) {
            fault(call + " after " + String.join(" ", before) + " has changed how many terms there are");
            return;
        }
        for (int i = 0; i < due.size(); i++) {
            if (!due.get(i).equals(got.get(i))) {
                fault(call + " after " + String.join(" ", before) + " has changed something: look " + i + " is " + got.get(i)
                    + ", was " + due.get(i));
            }
        }
    }

    private static void refusedIn(String[][] states, int want, String... calls) {
        for (String[] before : states) {
            refused(before, want, calls);
        }
    }

    /** All that can be asked after these calls; each look is at an object of its own, so that none goes on too long. */
    private static List<List<Integer>> look(String[] before) {
        List<List<Integer>> all = new ArrayList<>();
        all.add(lookAtWhole(new Run(before)));
        int terms = new Run(before).ask("count(0)");
        for (int first = 0; first <= terms; first += 6) {
            all.add(lookAtTerms(new Run(before), first, Math.min(terms, first + 5)));
        }
        all.add(lookAtMore(new Run(before)));
        all.add(lookAtMoreClaims(new Run(before)));
        all.add(lookAtLess(new Run(before), "release()", "pop()"));
        all.add(lookAtLess(new Run(before), "pop()", "release()"));
        all.add(lookAtLess(new Run(before), "clear()", "word(12)"));
        return all;
    }

    private static void add(List<Integer> seen, Run run, String... calls) {
        for (String call : calls) {
            seen.add(run.ask(call));
        }
    }

    private static List<Integer> lookAtWhole(Run run) {
        List<Integer> seen = new ArrayList<>();
        add(seen, run, "count(0)", "count(1)", "count(2)", "count(3)", "count(4)", "models()", "great()", "cores()");
        for (int k = -1; k <= 9; k++) {
            add(seen, run, "core(" + k + ")");
        }
        for (int a = -1; a <= 24; a++) {
            add(seen, run, "bits(" + a + ")");
        }
        return seen;
    }

    /** The term behind the last one is looked at, too: it shall be none. */
    private static List<Integer> lookAtTerms(Run run, int first, int last) {
        List<Integer> seen = new ArrayList<>();
        for (int a = first; a <= last; a++) {
            add(seen, run, "bound(" + a + ", false)", "bound(" + a + ", true)", "values(" + a + ")", "certain(" + a + ")",
                "without(" + a + ", false)", "without(" + a + ", true)");
            for (int k : new int[] {-1, 0, 1, 2, 7, 8, 50, 119, 4095}) {
                add(seen, run, "value(" + a + ", " + k + ")");
            }
            for (int v : new int[] {-1, 0, 1, 2, 5, 15, 4095}) {
                add(seen, run, "where(" + a + ", " + v + ")");
            }
            for (int b = 0; b <= 24; b++) {
                add(seen, run, "same(" + a + ", " + b + ")");
            }
            for (int i = 0; i <= 12; i++) {
                add(seen, run, "size(" + a + ", " + i + ")");
            }
        }
        return seen;
    }

    /** What the calls that make terms answer then, and what becomes of it. */
    private static List<Integer> lookAtMore(Run run) {
        List<Integer> seen = new ArrayList<>();
        add(seen, run, "constant(3, 6)", "cut(0, 0, 1)", "widen(0, 12, true)", "act(0, 0, 0)", "act(18, 0, 0)", "act(5, 0, 0)",
            "choose(3, 0, 0)", "word(1)", "word(1)", "word(7)", "word(3)", "word(2)", "word(1)");
        add(seen, run, "count(0)", "count(1)", "models()", "great()", "cores()");
        for (int a = 0; a < 24; a++) {
            add(seen, run, "bits(" + a + ")", "value(" + a + ", 1)", "values(" + a + ")", "without(" + a + ", false)", "size(" + a + ", 0)");
        }
        return seen;
    }

    private static List<Integer> lookAtMoreClaims(Run run) {
        List<Integer> seen = new ArrayList<>();
        for (int a = 0; a < 24; a++) {
            add(seen, run, "push()", "assume(" + a + ")", "models()", "cores()", "core(0)", "claim(" + a + ")", "models()", "cores()", "core(0)");
        }
        add(seen, run, "count(2)", "count(3)", "count(4)", "great()");
        return seen;
    }

    private static List<Integer> lookAtLess(Run run, String first, String then) {
        List<Integer> seen = new ArrayList<>();
        for (int i = 0; i < 18; i++) {
            add(seen, run, i < 9 ? first : then, "models()", "value(0, 1)", "great()", "count(0)", "count(1)", "count(2)", "count(3)",
                "count(4)", "cores()", "core(0)", "bits(0)");
        }
        return seen;
    }

    // ---- The section "Terms".

    /** What the states above are said to be, so that the other tests stand on firm ground. */
    private static void states() {
        sentence("the states of this test");
        int[][] counts = {{0, 0, 0, 0, 0, 1}, {7, 5, 2, 1, 1, 8}, {7, 5, 2, 2, 1, 0}, {24, 2, 1, 0, 0, 4}, {3, 12, 1, 0, 1, 9},
            {24, 12, 16, 8, 8, 120}, {24, 12, 16, 8, 8, 0}};
        for (int i = 0; i < STATES.length; i++) {
            for (int what = 0; what < 5; what++) {
                taken(STATES[i], "count(" + what + ")", counts[i][what]);
            }
            taken(STATES[i], "models()", counts[i][5]);
        }
    }

    private static void termNumbers() {
        sentence("TERMS are numbered from 0 on, 24 at most");
        String[] makers = {"word(1)", "constant(1, 1)", "act(0, 0, 0)", "act(2, 0, 0)", "choose(0, 0, 0)", "cut(0, 0, 1)", "widen(0, 1, true)"};
        for (String maker : makers) {
            for (int many : new int[] {1, 2, 22, 23}) {
                taken(joined(new String[] {"word(1)"}, times(many - 1, "constant(1, 0)")), maker, many);
            }
            refused(joined(new String[] {"word(1)"}, times(23, "constant(1, 0)")), FULL, maker);
        }
        taken(NEW, "word(1)", 0);
        taken(NEW, "constant(1, 1)", 0);
        sentence("BAD (a number is none): of a term, on both sides");
        int[] many = {0, 7, 7, 24, 3, 24, 24};
        int[] bitsOfFirst = {BAD, 3, 3, 2, 12, 4, 4};
        int[] bitsOfLast = {BAD, 3, 3, 3, 1, 4, 4};
        for (int i = 0; i < STATES.length; i++) {
            taken(STATES[i], "bits(0)", bitsOfFirst[i]);
            taken(STATES[i], "bits(" + (many[i] - 1) + ")", bitsOfLast[i]);
            refused(STATES[i], BAD, "bits(-1)", "bits(" + many[i] + ")", "bits(" + LEAST + ")", "bits(" + MOST + ")");
        }
    }

    private static void termBits() {
        sentence("each has 1 .. 12 BITS (bit 0 is the lowest one)");
        taken(new String[] {"constant(1, 0)"}, "bits(0)", 1);
        taken(new String[] {"constant(12, 0)"}, "bits(0)", 12);
        taken(new String[] {"constant(12, 2049)", "cut(0, 0, 1)"}, "value(1, 0)", 1);
        taken(new String[] {"constant(12, 2048)", "cut(0, 0, 1)"}, "value(1, 0)", 0);
        taken(new String[] {"constant(12, 2048)", "cut(0, 11, 1)"}, "value(1, 0)", 1);
        taken(new String[] {"constant(12, 2047)", "cut(0, 11, 1)"}, "value(1, 0)", 0);
        sentence("All VARIABLES together have at most 12 BITS");
        for (int first = 1; first <= 11; first++) {
            String[] before = {"word(" + first + ")", "constant(12, 7)", "act(0, 1, 0)"};
            taken(before, "word(" + (12 - first) + ")", 3);
            refused(before, FULL, "word(" + (13 - first) + ")");
            refused(joined(before, "word(" + (12 - first) + ")"), FULL, "word(1)", "word(12)");
        }
    }

    private static void assignments() {
        sentence("ASSIGNMENTS are in order by their first VARIABLE'S number, then by the second's, and so on");
        String[] words = {"word(1)", "constant(2, 3)", "word(2)", "word(9)"};
        run(words, "models()", 4096, "value(0, 0)", 0, "value(0, 2047)", 0, "value(0, 2048)", 1, "value(0, 4095)", 1,
            "value(2, 0)", 0, "value(2, 511)", 0, "value(2, 512)", 1, "value(2, 2047)", 3, "value(2, 2048)", 0, "value(2, 4095)", 3,
            "value(3, 0)", 0, "value(3, 1)", 1, "value(3, 511)", 511, "value(3, 512)", 0, "value(3, 4095)", 511,
            "value(3, 4096)", NONE, "value(3, -1)", NONE);
        run(new String[] {"word(12)"}, "value(0, 0)", 0, "value(0, 1)", 1, "value(0, 4094)", 4094, "value(0, 4095)", 4095);
        sentence("(without VARIABLES there is just one)");
        run(NEW, "models()", 1, "constant(4, 9)", 0, "models()", 1, "value(0, 0)", 9, "value(0, 1)", NONE, "where(0, 9)", 0,
            "values(0)", 1, "certain(0)", 15, "great()", 0);
        run(NEW, "constant(1, 1)", 0, "claim(0)", 1, "models()", 1, "assume(0)", 1, "models()", 1);
        run(NEW, "constant(1, 0)", 0, "assume(0)", 1, "models()", 0, "release()", 1, "models()", 1, "claim(0)", 1, "models()", 0);
    }

    private static void claimsLevelsAssumed() {
        sentence("CLAIMS are TERMS of one bit, 16 at most");
        for (int bits = 1; bits <= 12; bits++) {
            String[] before = {"constant(" + bits + ", 1)"};
            if (bits == 1) {
                taken(before, "claim(0)", 1);
            } else {
                refused(before, BAD, "claim(0)", "assume(0)");
            }
        }
        String[] fifteen = joined(new String[] {"word(1)"}, times(15, "claim(0)"));
        taken(fifteen, "claim(0)", 16);
        refused(joined(fifteen, "claim(0)"), FULL, "claim(0)");
        sentence("LEVELS, 8 at most, may be opened");
        taken(times(7, "push()"), "push()", 8);
        refused(times(8, "push()"), FULL, "push()");
        sentence("ASSUMED are up to 8 more TERMS of one bit");
        String[] seven = joined(joined(fifteen, "claim(0)"), times(7, "assume(0)"));
        taken(seven, "assume(0)", 8);
        refused(joined(seven, "assume(0)"), FULL, "assume(0)", "claim(0)");
        sentence("when one is closed, the CLAIMS go that came since it was opened");
        run(new String[] {"word(1)", "act(0, 0, 0)"}, "claim(0)", 1, "push()", 1, "push()", 2, "claim(1)", 2, "models()", 0, "pop()", 1,
            "models()", 1, "value(0, 0)", 1, "claim(1)", 2, "pop()", 1, "models()", 1, "count(2)", 1, "pop()", BAD, "models()", 1);
        sentence("MODELS are ASSIGNMENTS by which all CLAIMS and all that is ASSUMED are 1");
        run(new String[] {"word(1)", "word(1)", "word(1)"}, "models()", 8, "claim(0)", 1, "models()", 4, "assume(1)", 1, "models()", 2,
            "claim(2)", 2, "models()", 1, "value(0, 0)", 1, "value(1, 0)", 1, "value(2, 0)", 1, "release()", 1, "models()", 2);
        String[] lastClaim = joined(new String[] {"word(1)", "constant(1, 1)"}, times(15, "claim(1)"));
        run(lastClaim, "models()", 2, "claim(0)", 16, "models()", 1, "value(0, 0)", 1);
        String[] lastAssumed = joined(new String[] {"word(1)", "constant(1, 1)"}, times(7, "assume(1)"));
        run(lastAssumed, "models()", 2, "assume(0)", 8, "models()", 1, "value(0, 0)", 1);
    }

    // ---- The promises.

    private static void newObject() {
        sentence("1: No TERMS, no CLAIMS, no LEVELS, nothing ASSUMED");
        run(NEW, "count(0)", 0, "count(1)", 0, "count(2)", 0, "count(3)", 0, "count(4)", 0, "bits(0)", BAD, "release()", 0, "pop()", BAD,
            "models()", 1, "great()", 0, "cores()", NONE, "core(0)", NONE, "clear()", 0);
        sentence("1: of an object without terms, all that asks for one is BAD");
        refused(NEW, BAD, "act(0, 0, 0)", "act(5, 0, 0)", "choose(0, 0, 0)", "cut(0, 0, 1)", "widen(0, 1, false)", "bits(0)", "claim(0)",
            "assume(0)", "value(0, 0)", "where(0, 0)", "bound(0, false)", "values(0)", "certain(0)", "same(0, 0)", "size(0, 0)",
            "without(0, false)", "pop()");
        sentence("1: two objects have nothing in common");
        Run one = new Run(ALL_FULL);
        due("count(0) of another", NEW, new Run(NEW).ask("count(0)"), 0);
        due("models() of another", MET, new Run(MET).ask("models()"), 8);
        due("models() of the first", ALL_FULL, one.ask("models()"), 120);
    }

    private static void clear() {
        sentence("2: All is as at first");
        List<List<Integer>> fresh = look(NEW);
        for (String[] before : STATES) {
            List<List<Integer>> got = look(joined(before, "clear()"));
            due("what can be seen after clear() is as of a new object: 1", before, got.equals(fresh) ? 1 : 0, 1);
        }
        run(joined(ALL_FULL, "clear()"), "word(12)", 0, "models()", 4096, "value(0, 4095)", 4095, "without(0, true)", 1);
        run(joined(ALL_FULL, "clear()"), "constant(4, 3)", 0, "without(0, false)", BAD, "value(0, 0)", 3, "values(0)", 1);
        sentence("2: how many TERMS there were");
        int[] were = {0, 7, 7, 24, 3, 24, 24};
        for (int i = 0; i < STATES.length; i++) {
            run(STATES[i], "clear()", were[i], "clear()", 0);
        }
    }

    private static void word() {
        sentence("3: BAD: not 1 .. 12");
        for (String[] before : STATES) {
            refused(before, BAD, "word(0)", "word(13)", "word(-1)", "word(33)", "word(-31)", "word(" + LEAST + ")", "word(" + MOST + ")");
        }
        for (int bits = 1; bits <= 12; bits++) {
            run(NEW, "word(" + bits + ")", 0, "bits(0)", bits, "count(1)", bits, "models()", 1 << bits, "bound(0, true)", (1 << bits) - 1);
        }
        sentence("3: FULL: 24 TERMS");
        String[] one = joined(new String[] {"word(2)"}, times(22, "constant(1, 1)"));
        taken(one, "word(1)", 23);
        taken(one, "word(10)", 23);
        refused(ALL_TERMS, FULL, "word(1)", "word(10)", "word(11)", "word(12)");
        sentence("3: FULL: VARIABLES would have more than 12 BITS together");
        refused(ALL_BITS, FULL, "word(1)", "word(2)", "word(12)");
        refused(MET, FULL, "word(8)", "word(12)");
        taken(MET, "word(7)", 7);
        String[] ones = times(11, "word(1)");
        run(ones, "word(2)", FULL, "word(1)", 11, "word(1)", FULL, "count(0)", 12, "count(1)", 12, "models()", 4096);
        refused(new String[] {"word(11)"}, FULL, "word(2)");
        taken(new String[] {"word(11)"}, "word(1)", 1);
    }

    private static void constant() {
        sentence("4: BAD: of the BITS");
        for (String[] before : STATES) {
            refused(before, BAD, "constant(0, 0)", "constant(13, 0)", "constant(-1, 0)", "constant(33, 1)", "constant(" + LEAST + ", 0)",
                "constant(" + MOST + ", 0)");
        }
        sentence("4: BAD: of the number, on both sides, for each number of BITS");
        for (int bits = 1; bits <= 12; bits++) {
            int last = (1 << bits) - 1;
            run(NEW, "constant(" + bits + ", 0)", 0, "value(0, 0)", 0, "constant(" + bits + ", " + last + ")", 1, "value(1, 0)", last, "bits(1)", bits);
            refused(MET, BAD, "constant(" + bits + ", " + (last + 1) + ")", "constant(" + bits + ", -1)",
                "constant(" + bits + ", " + LEAST + ")", "constant(" + bits + ", " + MOST + ")");
        }
        sentence("4: FULL");
        taken(joined(new String[] {"word(2)"}, times(22, "constant(1, 1)")), "constant(12, 4095)", 23);
        refusedIn(new String[][] {ALL_TERMS, ALL_FULL}, FULL, "constant(1, 0)", "constant(12, 4095)");
        sentence("4: a constant has no BITS of VARIABLES");
        run(ALL_BITS, "constant(12, 4095)", 3, "count(1)", 12, "value(3, 8)", 4095, "models()", 9);
    }

    private static void act() {
        sentence("5: BAD: the kind is none, on both sides");
        refusedIn(new String[][] {MET, UNMET, ALL_TERMS, ALL_FULL}, BAD, "act(-1, 0, 0)", "act(20, 0, 0)", "act(32, 0, 0)",
            "act(-20, 0, 0)", "act(" + LEAST + ", 0, 0)", "act(" + MOST + ", 0, 0)");
        run(NEW, "word(2)", 0, "act(0, 0, 0)", 1, "act(19, 0, 0)", 2);
        for (int kind = 0; kind <= 19; kind++) {
            sentence("5: A TERM of an ACT on two TERMS: act " + kind);
            taken(MET, "act(" + kind + ", 0, 2)", 7);
            taken(new String[] {"word(1)"}, "act(" + kind + ", 0, 0)", 1);
            sentence("5: BAD: act " + kind + " on what is no TERM");
            refused(MET, BAD, "act(" + kind + ", -1, 0)", "act(" + kind + ", 7, 0)", "act(" + kind + ", " + LEAST + ", 0)",
                "act(" + kind + ", " + MOST + ", 0)");
            if (kind >= 2) {
                refused(MET, BAD, "act(" + kind + ", 0, -1)", "act(" + kind + ", 0, 7)", "act(" + kind + ", 0, " + LEAST + ")",
                    "act(" + kind + ", 0, " + MOST + ")");
            }
            if (kind >= 2 && kind != 18) {
                sentence("5: BAD: act " + kind + " on TERMS of other BITS");
                refused(MET, BAD, "act(" + kind + ", 0, 1)", "act(" + kind + ", 1, 0)", "act(" + kind + ", 0, 3)");
            }
            sentence("5: FULL: act " + kind);
            taken(joined(new String[] {"word(2)"}, times(22, "constant(1, 1)")), "act(" + kind + ", 0, 0)", 23);
            refused(ALL_TERMS, FULL, "act(" + kind + ", 0, 0)", "act(" + kind + ", 23, 23)");
        }
        sentence("Acts 0 and 1 have no b");
        for (int b : new int[] {0, 1, 6, 7, -1, 24, LEAST, MOST}) {
            run(MET, "act(0, 0, " + b + ")", 7, "act(1, 0, " + b + ")", 8, "bits(7)", 3, "bits(8)", 3, "value(7, 0)", 6, "value(8, 0)", 7);
        }
        sentence("so many BITS has the result, but for 15 to 18");
        for (int bits : new int[] {1, 2, 6, 12}) {
            for (int kind = 0; kind <= 19; kind++) {
                if (kind != 18) {
                    taken(new String[] {"constant(" + bits + ", 1)", "act(" + kind + ", 0, 0)"}, "bits(1)", kind >= 15 && kind <= 17 ? 1 : bits);
                }
            }
        }
    }

    private static void actOfEighteen() {
        sentence("5: BAD: of 18 also: more than 12 BITS together");
        for (int upper = 1; upper <= 12; upper++) {
            for (int lower = 1; lower <= 12; lower++) {
                String[] before = {"constant(" + upper + ", 1)", "constant(" + lower + ", 1)"};
                if (upper + lower <= 12) {
                    run(before, "act(18, 0, 1)", 2, "bits(2)", upper + lower, "value(2, 0)", (1 << lower) + 1);
                } else {
                    taken(before, "act(18, 0, 1)", BAD);
                }
            }
        }
        refused(new String[] {"word(6)", "constant(7, 1)"}, BAD, "act(18, 0, 1)", "act(18, 1, 0)", "act(18, 1, 1)");
        refused(new String[] {"word(12)", "constant(1, 1)"}, BAD, "act(18, 0, 1)", "act(18, 1, 0)", "act(18, 0, 0)");
        refused(ALL_FULL, BAD, "act(18, 8, 0)", "act(18, 12, 8)");
        refused(ALL_FULL, FULL, "act(18, 0, 7)", "act(18, 7, 0)");
        taken(new String[] {"word(6)", "constant(6, 1)"}, "act(18, 0, 1)", 2);
    }

    private static void choose() {
        sentence("6: a if c is 1, else b");
        run(new String[] {"word(1)", "constant(12, 4095)", "constant(12, 0)"}, "choose(0, 1, 2)", 3, "bits(3)", 12, "value(3, 0)", 0,
            "value(3, 1)", 4095, "choose(0, 2, 1)", 4, "value(4, 0)", 4095, "value(4, 1)", 0, "choose(0, 0, 0)", 5, "value(5, 1)", 1);
        String[] later = {"word(1)", "constant(3, 5)", "word(3)"};
        run(later, "choose(0, 1, 2)", 3, "value(3, 7)", 7, "value(3, 8)", 5, "value(3, 15)", 5, "choose(0, 2, 1)", 4, "value(4, 7)", 5,
            "value(4, 8)", 0, "value(4, 15)", 7);
        sentence("6: BAD: c, a or b is no TERM");
        refusedIn(new String[][] {MET, UNMET}, BAD, "choose(-1, 0, 2)", "choose(7, 0, 2)", "choose(3, -1, 2)", "choose(3, 7, 2)",
            "choose(3, 0, -1)", "choose(3, 0, 7)", "choose(" + LEAST + ", 0, 2)", "choose(3, " + LEAST + ", 2)", "choose(3, 0, " + LEAST + ")",
            "choose(" + MOST + ", 0, 2)", "choose(3, " + MOST + ", 2)", "choose(3, 0, " + MOST + ")");
        sentence("6: BAD: c has not one bit");
        refused(MET, BAD, "choose(0, 0, 2)", "choose(1, 0, 2)", "choose(1, 1, 1)");
        taken(MET, "choose(3, 0, 2)", 7);
        sentence("6: BAD: b has not as many BITS as a");
        refused(MET, BAD, "choose(3, 0, 1)", "choose(3, 1, 0)", "choose(3, 3, 0)", "choose(3, 0, 3)");
        taken(MET, "choose(3, 0, 6)", 7);
        sentence("6: FULL");
        taken(joined(new String[] {"word(2)"}, times(22, "constant(1, 1)")), "choose(1, 0, 0)", 23);
        refused(ALL_TERMS, FULL, "choose(1, 0, 0)", "choose(2, 22, 23)");
        refused(ALL_TERMS, BAD, "choose(0, 0, 0)", "choose(1, 0, 1)", "choose(1, 0, 24)", "choose(24, 0, 0)");
        refused(ALL_FULL, FULL, "choose(5, 0, 1)");
    }

    private static void cut() {
        sentence("7: bits from .. of a, so many");
        String[] six = {"constant(6, 45)"};
        run(six, "cut(0, 0, 6)", 1, "value(1, 0)", 45, "cut(0, 0, 1)", 2, "value(2, 0)", 1, "cut(0, 5, 1)", 3, "value(3, 0)", 1,
            "cut(0, 4, 2)", 4, "value(4, 0)", 2, "cut(0, 1, 5)", 5, "value(5, 0)", 22, "bits(5)", 5, "cut(0, 4, 1)", 6, "value(6, 0)", 0);
        sentence("7: BAD: also a has not all of them");
        for (int from = 0; from <= 6; from++) {
            for (int many = 1; many <= 7; many++) {
                if (from + many <= 6) {
                    run(six, "cut(0, " + from + ", " + many + ")", 1, "bits(1)", many, "value(1, 0)", (45 >> from) % (1 << many));
                } else {
                    refused(six, BAD, "cut(0, " + from + ", " + many + ")");
                }
            }
        }
        run(new String[] {"constant(12, 4095)"}, "cut(0, 11, 1)", 1, "cut(0, 0, 12)", 2, "cut(0, 12, 1)", BAD, "cut(0, 11, 2)", BAD,
            "cut(0, 0, 13)", BAD, "cut(0, 1, 12)", BAD);
        sentence("7: BAD: from or many out of bounds, or no TERM");
        refusedIn(new String[][] {MET, UNMET, ALL_FULL}, BAD, "cut(0, -1, 1)", "cut(0, -1, 2)", "cut(0, 0, 0)", "cut(0, 1, 0)", "cut(0, 0, -1)",
            "cut(0, 3, 0)", "cut(0, 4, 0)", "cut(0, 4, -1)", "cut(-1, 0, 1)", "cut(24, 0, 1)", "cut(0, " + MOST + ", 1)", "cut(0, 1, " + MOST + ")",
            "cut(0, " + MOST + ", " + MOST + ")", "cut(0, " + LEAST + ", 1)", "cut(0, 0, " + LEAST + ")", "cut(0, " + LEAST + ", " + LEAST + ")",
            "cut(0, " + MOST + ", " + LEAST + ")", "cut(" + LEAST + ", 0, 1)", "cut(" + MOST + ", 0, 1)");
        refused(MET, BAD, "cut(7, 0, 1)");
        taken(MET, "cut(6, 0, 1)", 7);
        sentence("7: FULL");
        taken(joined(new String[] {"word(2)"}, times(22, "constant(1, 1)")), "cut(0, 1, 1)", 23);
        refused(ALL_TERMS, FULL, "cut(0, 0, 1)", "cut(0, 1, 1)", "cut(0, 0, 2)", "cut(23, 0, 3)");
        refused(ALL_TERMS, BAD, "cut(0, 1, 2)", "cut(0, 2, 1)", "cut(23, 0, 4)");
    }

    private static void widen() {
        sentence("8: the lowest of them a's, the others 0, or (sign) like its highest one");
        for (int bits = 4; bits <= 12; bits++) {
            int above = (1 << bits) - 16;
            run(new String[] {"constant(4, 8)", "constant(4, 7)"}, "widen(0, " + bits + ", false)", 2, "widen(0, " + bits + ", true)", 3,
                "widen(1, " + bits + ", false)", 4, "widen(1, " + bits + ", true)", 5, "bits(2)", bits, "bits(3)", bits, "value(2, 0)", 8,
                "value(3, 0)", above + 8, "value(4, 0)", 7, "value(5, 0)", 7);
        }
        run(new String[] {"word(1)"}, "widen(0, 12, true)", 1, "value(1, 0)", 0, "value(1, 1)", 4095, "widen(0, 12, false)", 2, "value(2, 1)", 1);
        sentence("8: BAD: also a has more");
        for (int bits = 1; bits <= 12; bits++) {
            String[] before = {"word(" + bits + ")", "constant(1, 1)"};
            run(before, "widen(0, " + bits + ", false)", 2, "same(0, 2)", 1, "widen(0, " + bits + ", true)", 3, "same(0, 3)", 1);
            if (bits > 1) {
                refused(before, BAD, "widen(0, " + (bits - 1) + ", false)", "widen(0, " + (bits - 1) + ", true)", "widen(0, 1, false)");
            }
        }
        sentence("8: BAD: the BITS out of bounds, or no TERM");
        refusedIn(new String[][] {MET, UNMET, ALL_FULL}, BAD, "widen(0, 13, false)", "widen(0, 13, true)", "widen(0, 0, true)", "widen(0, -1, true)",
            "widen(0, " + LEAST + ", false)", "widen(0, " + MOST + ", false)", "widen(-1, 12, true)", "widen(24, 12, true)",
            "widen(" + LEAST + ", 12, false)", "widen(" + MOST + ", 12, false)");
        refused(MET, BAD, "widen(7, 12, false)");
        taken(MET, "widen(6, 12, false)", 7);
        sentence("8: FULL");
        taken(joined(new String[] {"word(2)"}, times(22, "constant(1, 1)")), "widen(0, 12, true)", 23);
        refused(ALL_TERMS, FULL, "widen(0, 2, false)", "widen(0, 12, true)");
        refused(ALL_TERMS, BAD, "widen(0, 1, true)", "widen(0, 13, true)", "widen(24, 12, true)");
    }

    private static void bits() {
        sentence("9: How many BITS a TERM has");
        int[] due = {4, 4, 4, 4, 1, 1, 1, 8, 12, 4, 4, 12, 1, 1, 4, 7, 9, 4, 4, 4, 4, 1, 4, 4};
        for (int a = 0; a < due.length; a++) {
            taken(ALL_FULL, "bits(" + a + ")", due[a]);
        }
        sentence("9: BAD");
        refusedIn(new String[][] {ALL_FULL, ALL_TERMS}, BAD, "bits(24)", "bits(-1)", "bits(25)", "bits(" + LEAST + ")", "bits(" + MOST + ")");
        refused(MET, BAD, "bits(7)");
        taken(MET, "bits(6)", 3);
        taken(joined(MET, "clear()"), "bits(0)", BAD);
    }

    private static void claim() {
        sentence("10: BAD: no TERM");
        refusedIn(new String[][] {MET, UNMET}, BAD, "claim(-1)", "claim(7)", "claim(24)", "claim(" + LEAST + ")", "claim(" + MOST + ")");
        sentence("10: BAD: not of one bit");
        refused(MET, BAD, "claim(0)", "claim(1)", "claim(2)", "claim(6)");
        run(MET, "claim(3)", 3, "claim(4)", 4, "claim(5)", 5, "models()", 0);
        sentence("10: FULL");
        String[] fifteen = joined(ALL_MADE, times(15, "claim(12)"));
        run(fifteen, "count(2)", 15, "claim(13)", 16, "models()", 0, "claim(12)", FULL, "count(2)", 16);
        refusedIn(new String[][] {ALL_FULL, FULL_UNMET}, FULL, "claim(4)", "claim(12)", "claim(13)");
        refusedIn(new String[][] {ALL_FULL, FULL_UNMET}, BAD, "claim(0)", "claim(24)", "claim(-1)");
        sentence("10: after FULL, a level that closes makes room again");
        run(ALL_FULL, "claim(12)", FULL, "pop()", 2, "claim(12)", 15, "claim(12)", 16, "claim(12)", FULL, "pop()", 4);
    }

    private static void assume() {
        sentence("11: BAD: no TERM");
        refusedIn(new String[][] {MET, UNMET}, BAD, "assume(-1)", "assume(7)", "assume(24)", "assume(" + LEAST + ")", "assume(" + MOST + ")");
        sentence("11: BAD: not of one bit");
        refused(MET, BAD, "assume(0)", "assume(1)", "assume(2)", "assume(6)");
        run(MET, "assume(3)", 2, "assume(4)", 3, "assume(5)", 4, "models()", 0);
        sentence("11: FULL");
        run(joined(ALL_MADE, times(7, "assume(12)")), "count(3)", 7, "assume(13)", 8, "models()", 0, "assume(12)", FULL, "count(3)", 8,
            "cores()", 1, "core(0)", 13);
        refusedIn(new String[][] {ALL_FULL, FULL_UNMET}, FULL, "assume(5)", "assume(12)", "assume(13)");
        refusedIn(new String[][] {ALL_FULL, FULL_UNMET}, BAD, "assume(0)", "assume(24)", "assume(-1)");
    }

    private static void release() {
        sentence("12: Nothing is ASSUMED any more: how many were");
        int[] were = {0, 1, 2, 0, 0, 8, 8};
        int[] before = {1, 8, 0, 4, 9, 120, 0};
        int[] after = {1, 8, 8, 4, 9, 256, 256};
        for (int i = 0; i < STATES.length; i++) {
            run(STATES[i], "release()", were[i], "count(3)", 0, "models()", after[i], "release()", 0, "models()", after[i]);
            run(STATES[i], "models()", before[i], "release()", were[i], "models()", after[i], "cores()", NONE);
        }
        sentence("12: after FULL, there is room for 8 again");
        run(ALL_FULL, "assume(12)", FULL, "release()", 8, "assume(12)", 1, "count(2)", 16, "count(4)", 8);
    }

    private static void push() {
        sentence("13: A LEVEL more: how many are open. FULL");
        run(NEW, "push()", 1, "push()", 2, "push()", 3, "push()", 4, "push()", 5, "push()", 6, "push()", 7, "push()", 8, "push()", FULL,
            "count(4)", 8, "pop()", 0, "push()", 8, "push()", FULL);
        refusedIn(new String[][] {ALL_FULL, FULL_UNMET, times(8, "push()")}, FULL, "push()");
    }

    private static void pop() {
        sentence("14: BAD: none is open");
        refusedIn(new String[][] {NEW, ALL_TERMS, joined(MET, "pop()")}, BAD, "pop()");
        run(new String[] {"push()"}, "pop()", 0, "pop()", BAD, "pop()", BAD, "count(4)", 0);
        run(new String[] {"word(1)", "claim(0)"}, "pop()", BAD, "count(2)", 1, "models()", 1);
        sentence("14: how many CLAIMS went");
        run(ALL_FULL, "pop()", 2, "pop()", 2, "pop()", 2, "pop()", 2, "pop()", 2, "pop()", 2, "pop()", 2, "models()", 120, "count(2)", 2,
            "pop()", 2, "count(2)", 0, "models()", 16 * 120, "pop()", BAD, "models()", 16 * 120);
        run(joined(new String[] {"word(1)", "push()"}, times(16, "claim(0)")), "claim(0)", FULL, "pop()", 16, "count(2)", 0, "models()", 2);
        run(joined(joined(new String[] {"word(1)"}, times(16, "claim(0)")), "push()"), "pop()", 0, "count(2)", 16, "models()", 1);
        sentence("14: what is ASSUMED stays, and so do TERMS");
        run(new String[] {"push()", "word(1)", "claim(0)", "assume(0)"}, "pop()", 1, "count(0)", 1, "count(3)", 1, "models()", 1);
    }

    private static void models() {
        sentence("15: How many MODELS there are");
        run(NEW, "models()", 1);
        for (int bits = 1; bits <= 12; bits++) {
            taken(new String[] {"word(" + bits + ")"}, "models()", 1 << bits);
        }
        run(new String[] {"word(12)", "constant(12, 0)", "act(16, 0, 1)", "constant(12, 4095)", "act(16, 0, 3)"}, "assume(2)", 1,
            "models()", 0, "release()", 1, "assume(4)", 1, "models()", 4095);
        run(UNMET, "models()", 0, "word(7)", 7, "models()", 0, "release()", 2, "models()", 8 * 128);
    }

    private static void value() {
        sentence("16: NONE: there is none such");
        run(MET, "value(0, 0)", 1, "value(1, 0)", 0, "value(0, 7)", 3, "value(1, 7)", 3);
        refused(MET, NONE, "value(0, 8)", "value(0, -1)", "value(0, 9)", "value(0, 31)", "value(0, " + LEAST + ")", "value(0, " + MOST + ")");
        refusedIn(new String[][] {UNMET, FULL_UNMET}, NONE, "value(0, 0)", "value(0, -1)", "value(0, 1)", "value(0, " + MOST + ")");
        run(new String[] {"word(12)"}, "value(0, 4095)", 4095, "value(0, 4096)", NONE);
        taken(ALL_FULL, "value(0, 120)", NONE);
        // a times b is c, and a is less than b: the last of these models is a = 14 and b = 15.
        run(ALL_FULL, "value(0, 119)", 14, "value(1, 119)", 15, "value(2, 119)", 210 % 16, "value(0, 0)", 0, "value(1, 0)", 1, "value(2, 0)", 0);
        run(new String[] {"constant(3, 6)"}, "value(0, 0)", 6, "value(0, 1)", NONE, "value(0, -1)", NONE);
        sentence("16: BAD");
        refusedIn(new String[][] {MET, UNMET, FULL_UNMET}, BAD, "value(-1, 0)", "value(24, 0)", "value(24, 9)", "value(-1, -1)", "value(24, 4096)",
            "value(" + LEAST + ", 0)", "value(" + MOST + ", 0)");
        refused(MET, BAD, "value(7, 0)", "value(7, 8)");
        taken(MET, "value(6, 7)", 7);
    }

    private static void where() {
        sentence("17: The first MODEL by which a TERM is v");
        run(MET, "where(0, 1)", 0, "where(0, 3)", 4, "where(1, 3)", 3, "where(1, 0)", 0, "where(6, 7)", 3, "where(3, 1)", 0);
        run(new String[] {"word(12)"}, "where(0, 0)", 0, "where(0, 4095)", 4095);
        sentence("17: NONE");
        refused(MET, NONE, "where(0, 0)", "where(0, 2)", "where(0, 7)", "where(3, 0)", "where(6, 4)");
        refusedIn(new String[][] {UNMET, FULL_UNMET}, NONE, "where(0, 0)", "where(0, 1)", "where(0, 7)");
        sentence("17: BAD: also v is below 0, or has more BITS");
        for (int bits = 1; bits <= 12; bits++) {
            int last = (1 << bits) - 1;
            String[] before = {"word(" + bits + ")", "constant(" + bits + ", 0)", "act(15, 0, 1)"};
            run(before, "where(0, 0)", 0, "where(0, " + last + ")", last, "where(1, " + last + ")", NONE, "where(0, -1)", BAD,
                "where(0, " + (last + 1) + ")", BAD, "where(1, -1)", BAD, "where(1, " + (last + 1) + ")", BAD);
        }
        refusedIn(new String[][] {MET, UNMET}, BAD, "where(0, -1)", "where(0, 8)", "where(1, 4)", "where(3, 2)", "where(0, 4096)",
            "where(0, " + LEAST + ")", "where(0, " + MOST + ")");
        sentence("17: BAD: no TERM");
        refusedIn(new String[][] {MET, UNMET}, BAD, "where(-1, 0)", "where(7, 0)", "where(24, 0)", "where(" + LEAST + ", 0)", "where(" + MOST + ", 0)");
    }

    private static void bound() {
        sentence("18: The least number (or the greatest one) that a TERM is by any MODEL");
        run(MET, "bound(0, false)", 1, "bound(0, true)", 3, "bound(1, false)", 0, "bound(1, true)", 3, "bound(6, true)", 7, "bound(5, true)", 0,
            "bound(3, false)", 1);
        run(new String[] {"word(12)", "act(0, 0, 0)"}, "bound(0, false)", 0, "bound(0, true)", 4095, "bound(1, false)", 0, "bound(1, true)", 4095);
        run(new String[] {"constant(12, 4095)"}, "bound(0, false)", 4095, "bound(0, true)", 4095);
        sentence("18: NONE: there are none");
        refusedIn(new String[][] {UNMET, FULL_UNMET}, NONE, "bound(0, false)", "bound(0, true)", "bound(2, false)", "bound(2, true)");
        sentence("18: BAD");
        refusedIn(new String[][] {MET, UNMET}, BAD, "bound(-1, false)", "bound(7, false)", "bound(7, true)", "bound(24, true)",
            "bound(" + LEAST + ", true)", "bound(" + MOST + ", false)");
    }

    private static void values() {
        sentence("19: How many different numbers a TERM is by MODELS");
        run(MET, "values(0)", 2, "values(1)", 4, "values(2)", 1, "values(3)", 1, "values(6)", 4);
        run(new String[] {"word(12)", "act(0, 0, 0)", "act(5, 0, 0)"}, "values(0)", 4096, "values(1)", 4096, "values(2)", 2048);
        sentence("19: by no MODELS, it is none");
        for (String[] before : new String[][] {UNMET, FULL_UNMET}) {
            run(before, "values(0)", 0, "values(2)", 0, "values(6)", 0);
        }
        sentence("19: BAD");
        refusedIn(new String[][] {MET, UNMET}, BAD, "values(-1)", "values(7)", "values(24)", "values(" + LEAST + ")", "values(" + MOST + ")");
    }

    private static void certain() {
        sentence("20: Which bits of a TERM are the same by all MODELS");
        run(MET, "certain(0)", 5, "certain(1)", 0, "certain(2)", 7, "certain(3)", 1, "certain(5)", 1, "certain(6)", 0);
        run(new String[] {"word(12)", "constant(12, 0)", "constant(12, 4095)", "act(5, 0, 0)", "act(15, 0, 2)"}, "certain(0)", 0, "certain(1)", 4095,
            "certain(2)", 4095, "certain(3)", 1, "assume(4)", 1, "certain(0)", 4095, "certain(3)", 4095);
        sentence("20: by all MODELS: not if the first one alone is other, nor the second, nor the last");
        for (int v : new int[] {0, 1, 2, 4095}) {
            run(new String[] {"word(12)", "constant(12, " + v + ")", "act(15, 0, 1)"}, "certain(2)", 0, "values(2)", 2, "where(2, 1)", v,
                "bound(2, true)", 1, "bound(2, false)", 0);
        }
        sentence("20: NONE: there are none");
        refusedIn(new String[][] {UNMET, FULL_UNMET}, NONE, "certain(0)", "certain(2)", "certain(3)");
        sentence("20: BAD");
        refusedIn(new String[][] {MET, UNMET}, BAD, "certain(-1)", "certain(7)", "certain(24)", "certain(" + LEAST + ")", "certain(" + MOST + ")");
    }

    private static void same() {
        sentence("21: Whether two TERMS are the same by all MODELS (1 or 0)");
        run(MET, "same(3, 4)", 1, "same(3, 5)", 0, "same(0, 0)", 1, "same(0, 2)", 0, "same(0, 6)", 0);
        run(new String[] {"word(12)", "constant(12, 4095)", "act(16, 0, 1)", "constant(1, 1)"}, "same(2, 3)", 0, "assume(2)", 1, "same(2, 3)", 1);
        sentence("21: by all MODELS: not if the first one alone is other, nor the last");
        for (int v : new int[] {0, 1, 4095}) {
            run(new String[] {"word(12)", "constant(12, " + v + ")", "act(15, 0, 1)", "constant(1, 0)"}, "same(2, 3)", 0, "same(3, 2)", 0);
        }
        sentence("21: without MODELS, all are the same by all of them");
        run(UNMET, "same(3, 5)", 1, "same(0, 2)", 1, "same(0, 0)", 1);
        run(FULL_UNMET, "same(12, 13)", 1, "same(5, 6)", 1);
        sentence("21: BAD: also they have not as many BITS");
        refusedIn(new String[][] {MET, UNMET}, BAD, "same(0, 1)", "same(1, 0)", "same(0, 3)", "same(3, 1)");
        for (int bits = 1; bits < 12; bits++) {
            run(new String[] {"constant(" + bits + ", 1)", "constant(" + (bits + 1) + ", 1)"}, "same(0, 1)", BAD, "same(1, 0)", BAD, "same(0, 0)", 1);
        }
        sentence("21: BAD: no TERM");
        refusedIn(new String[][] {MET, UNMET}, BAD, "same(-1, 0)", "same(0, -1)", "same(7, 0)", "same(0, 7)", "same(7, 7)", "same(-1, -1)",
            "same(" + LEAST + ", 0)", "same(0, " + LEAST + ")", "same(" + MOST + ", 0)", "same(0, " + MOST + ")");
    }

    private static void cores() {
        sentence("22: NONE: there are MODELS");
        refusedIn(new String[][] {NEW, MET, ALL_TERMS, ALL_BITS, ALL_FULL}, NONE, "cores()");
        run(joined(UNMET, "release()"), "cores()", NONE);
        run(new String[] {"word(1)", "act(0, 0, 0)", "assume(0)"}, "cores()", NONE, "assume(1)", 2, "cores()", 2);
        sentence("22: How many of what is ASSUMED are in THE CORE");
        taken(UNMET, "cores()", 1);
        taken(FULL_UNMET, "cores()", 2);
        sentence("22: nothing of it, if the CLAIMS alone have no MODELS");
        run(new String[] {"constant(1, 0)", "claim(0)"}, "cores()", 0, "assume(0)", 1, "cores()", 0, "core(0)", NONE);
        sentence("22: all of it, if all is needed: eight");
        String[] eight = {};
        for (int i = 0; i < 7; i++) {
            eight = joined(eight, "word(1)");
        }
        // Seven bits that are 1 are a number of which the eighth says that it is not 127.
        eight = joined(eight, "act(2, 0, 1)", "act(2, 7, 2)", "act(2, 8, 3)", "act(2, 9, 4)", "act(2, 10, 5)", "act(2, 11, 6)", "act(0, 12, 0)");
        for (int i = 0; i < 7; i++) {
            eight = joined(eight, "assume(" + i + ")");
        }
        run(eight, "cores()", NONE, "assume(13)", 8, "cores()", 8, "core(0)", 0, "core(6)", 6, "core(7)", 13, "core(8)", NONE);
    }

    private static void core() {
        sentence("23: The TERM that is in place k of THE CORE; NONE");
        run(UNMET, "core(0)", 5);
        run(FULL_UNMET, "core(0)", 5, "core(1)", 6);
        refused(UNMET, NONE, "core(1)", "core(-1)", "core(2)", "core(8)", "core(" + LEAST + ")", "core(" + MOST + ")");
        refused(FULL_UNMET, NONE, "core(2)", "core(-1)", "core(7)", "core(8)", "core(32)", "core(" + LEAST + ")", "core(" + MOST + ")");
        sentence("23: NONE, if there are MODELS");
        refusedIn(new String[][] {NEW, MET, ALL_FULL}, NONE, "core(0)", "core(-1)", "core(1)", "core(" + MOST + ")");
        run(new String[] {"constant(1, 1)", "assume(0)"}, "models()", 1, "cores()", NONE, "core(0)", NONE);
        run(new String[] {"word(1)", "assume(0)"}, "models()", 1, "cores()", NONE, "core(0)", NONE);
        sentence("THE CORE: each in turn is left out, if there are none yet without it");
        String[] two = {"word(1)", "act(0, 0, 0)", "constant(1, 0)"};
        run(joined(two, "assume(0)", "assume(1)", "assume(2)"), "cores()", 1, "core(0)", 2);
        run(joined(two, "assume(2)", "assume(0)", "assume(1)"), "cores()", 2, "core(0)", 0, "core(1)", 1);
        run(joined(two, "assume(2)", "assume(2)"), "cores()", 1, "core(0)", 2, "core(1)", NONE);
        run(joined(two, "claim(1)", "assume(2)", "assume(0)"), "cores()", 1, "core(0)", 0);
    }

    private static void size() {
        sentence("24: BAD: the bit is none, on both sides");
        for (int bits = 1; bits <= 12; bits++) {
            run(new String[] {"word(" + bits + ")"}, "size(0, 0)", 1, "size(0, " + (bits - 1) + ")", 1, "size(0, " + bits + ")", BAD, "size(0, -1)", BAD);
        }
        refusedIn(new String[][] {MET, UNMET}, BAD, "size(0, 3)", "size(0, -1)", "size(3, 1)", "size(0, 12)", "size(0, 32)", "size(0, " + LEAST + ")",
            "size(0, " + MOST + ")");
        sentence("24: BAD: no TERM");
        refusedIn(new String[][] {MET, UNMET}, BAD, "size(-1, 0)", "size(7, 0)", "size(24, 0)", "size(" + LEAST + ", 0)", "size(" + MOST + ", 0)");
        sentence("24: PARTS that are 0 or 1 everywhere do not count");
        run(new String[] {"constant(2, 2)"}, "size(0, 0)", 0, "size(0, 1)", 0);
        run(new String[] {"word(12)", "constant(2, 2)", "act(6, 0, 0)", "act(15, 0, 0)"}, "size(1, 0)", 0, "size(1, 1)", 0, "size(2, 11)", 0, "size(3, 0)", 0);
        sentence("24: the SIZE is of the TERM, whatever is claimed");
        for (String[] before : new String[][] {MET, UNMET}) {
            run(before, "size(0, 0)", 1, "size(4, 0)", 1, "size(5, 0)", 1, "size(3, 0)", 3, "size(2, 0)", 0);
        }
        sentence("24: great ones");
        greatSize();
        sentence("24: how many different ones of its PARTS there are, of all bits of a product");
        String[] product = {"word(6)", "word(6)", "widen(0, 12, false)", "widen(1, 12, false)", "act(7, 2, 3)"};
        for (int bit = 0; bit < 12; bit++) {
            boolean[] function = new boolean[4096];
            for (int x = 0; x < 4096; x++) {
                function[x] = (x / 64 * (x % 64) >> bit) % 2 == 1;
            }
            int parts = partsOf(function);
            taken(product, "size(4, " + bit + ")", parts);
            run(joined(product, "cut(4, " + bit + ", 1)", "assume(5)"), "great()", parts);
        }
    }

    /** A function of 12 bits without any pattern has nearly as many parts as one can have (765). */
    private static void greatSize() {
        String[] mixed = {"word(12)", "constant(12, 2741)", "constant(12, 5)", "act(7, 0, 1)", "act(13, 3, 2)", "act(4, 3, 4)",
            "act(5, 5, 1)", "act(7, 6, 6)", "act(13, 7, 2)", "act(4, 7, 8)", "act(7, 9, 1)", "act(13, 10, 2)", "act(4, 10, 11)"};
        for (int bit : new int[] {0, 5, 6}) {
            boolean[] function = new boolean[4096];
            for (int x = 0; x < 4096; x++) {
                int y = x * 2741 % 4096;
                y = (y ^ (y >> 5)) + 2741;
                y = y * y % 4096;
                y = (y ^ (y >> 5)) * 2741 % 4096;
                y ^= y >> 5;
                function[x] = (y >> bit) % 2 == 1;
            }
            int parts = partsOf(function);
            taken(mixed, "size(12, " + bit + ")", parts);
            run(joined(mixed, "cut(12, " + bit + ", 1)"), "claim(13)", 1, "great()", parts);
            due("more than 600 parts: 1", mixed, parts > 600 ? 1 : 0, 1);
        }
    }

    /** The different parts as words of 0s and 1s, each as long as the function: a part does not ask for bits given before. */
    private static int partsOf(boolean[] function) {
        Set<String> different = new HashSet<>();
        StringBuilder whole = new StringBuilder();
        for (boolean one : function) {
            whole.append(one ? '1' : '0');
        }
        for (int length = function.length; length >= 1; length /= 2) {
            for (int start = 0; start < function.length; start += length) {
                String part = whole.substring(start, start + length);
                if (part.indexOf('0') >= 0 && part.indexOf('1') >= 0) {
                    different.add(part.repeat(function.length / length));
                }
            }
        }
        return different.size();
    }

    private static void great() {
        sentence("25: The SIZE of what is 1 just by MODELS");
        taken(NEW, "great()", 0);
        taken(new String[] {"word(12)"}, "great()", 0);
        taken(UNMET, "great()", 0);
        taken(FULL_UNMET, "great()", 0);
        // a is below 4 and odd: its highest bit and its lowest one are asked.
        taken(MET, "great()", 2);
        taken(new String[] {"constant(1, 1)", "claim(0)"}, "great()", 0);
        taken(new String[] {"constant(1, 0)", "claim(0)"}, "great()", 0);
        run(new String[] {"word(12)", "constant(12, 0)", "act(15, 0, 1)", "act(0, 2, 0)"}, "assume(2)", 1, "great()", 12, "release()", 1,
            "great()", 0, "claim(3)", 1, "great()", 12);
    }

    private static void without() {
        sentence("26: how many ASSIGNMENTS to all the others some number for a makes MODELS");
        run(MET, "without(0, false)", 4, "without(1, false)", 2);
        run(ALL_FULL, "without(2, false)", 120, "without(1, false)", pairs(false), "without(0, false)", pairs(true));
        run(new String[] {"word(12)"}, "without(0, false)", 1, "word(1)", FULL, "without(0, false)", 1);
        run(new String[] {"word(1)", "word(11)"}, "without(0, false)", 2048, "without(1, false)", 2);
        sentence("26: (any: each one)");
        run(MET, "without(0, true)", 0, "without(1, true)", 2);
        run(new String[] {"word(12)", "constant(12, 0)", "act(15, 0, 1)", "act(0, 2, 0)"}, "without(0, true)", 1, "assume(3)", 1,
            "without(0, true)", 0, "without(0, false)", 1);
        run(new String[] {"word(1)", "word(11)"}, "without(0, true)", 2048, "without(1, true)", 2);
        sentence("26: without MODELS, there are none");
        for (String[] before : new String[][] {UNMET, FULL_UNMET}) {
            run(before, "without(0, false)", 0, "without(0, true)", 0, "without(1, false)", 0, "without(1, true)", 0);
        }
        sentence("26: BAD: also it is no VARIABLE");
        refusedIn(new String[][] {MET, UNMET}, BAD, "without(2, false)", "without(2, true)", "without(3, false)", "without(4, true)", "without(6, false)");
        for (int a = 3; a < 24; a++) {
            run(ALL_FULL, "without(" + a + ", false)", BAD, "without(" + a + ", true)", BAD);
        }
        run(new String[] {"word(3)", "act(2, 0, 0)", "choose(3, 0, 0)", "cut(0, 0, 3)", "widen(0, 3, false)"}, "same(0, 1)", 1,
            "without(0, true)", 1, "without(1, false)", BAD, "without(2, false)", BAD, "without(3, false)", BAD);
        sentence("26: BAD: no TERM");
        refusedIn(new String[][] {MET, UNMET}, BAD, "without(-1, false)", "without(7, true)", "without(24, false)", "without(" + LEAST + ", true)",
            "without(" + MOST + ", false)");
    }

    /** How many pairs of b (or a) and c there are for which some other number makes c = a times b, a being less than b. */
    private static int pairs(boolean ofB) {
        Set<Integer> different = new HashSet<>();
        for (int b = 0; b < 16; b++) {
            for (int a = 0; a < b; a++) {
                different.add(16 * (ofB ? b : a) + a * b % 16);
            }
        }
        return different.size();
    }

    private static void count() {
        sentence("27: 0 TERMS, 1 BITS of all VARIABLES, 2 CLAIMS, 3 ASSUMED, 4 LEVELS");
        run(ALL_FULL, "count(0)", 24, "count(1)", 12, "count(2)", 16, "count(3)", 8, "count(4)", 8);
        run(NEW, "count(0)", 0, "count(1)", 0, "count(2)", 0, "count(3)", 0, "count(4)", 0);
        sentence("27: BAD");
        for (String[] before : STATES) {
            refused(before, BAD, "count(-1)", "count(5)", "count(32)", "count(" + LEAST + ")", "count(" + MOST + ")");
        }
    }

    private static void badBeforeFull() {
        sentence("REFUSALS: BAD first; then FULL");
        refusedIn(new String[][] {ALL_FULL, FULL_UNMET}, BAD, "word(0)", "word(13)", "constant(13, 0)", "constant(1, 2)", "constant(1, -1)",
            "act(20, 0, 0)", "act(5, 0, 8)", "act(5, 24, 0)", "act(0, 24, 0)", "act(1, -1, 0)", "act(5, 0, 24)", "act(18, 8, 8)", "choose(0, 0, 0)",
            "choose(5, 0, 8)", "choose(5, 0, 24)", "cut(0, 0, 5)", "cut(0, 4, 1)", "cut(24, 0, 1)", "widen(0, 3, true)", "widen(0, 13, true)",
            "widen(24, 12, true)", "claim(0)", "claim(24)", "assume(0)", "assume(24)");
        refusedIn(new String[][] {ALL_FULL, FULL_UNMET}, FULL, "word(1)", "word(12)", "constant(1, 1)", "act(5, 0, 1)", "act(0, 0, -1)", "act(1, 0, 24)",
            "act(18, 0, 1)", "choose(5, 0, 1)", "cut(0, 0, 4)", "widen(0, 4, true)", "claim(5)", "assume(5)", "push()");
        refused(ALL_BITS, BAD, "word(0)", "word(13)");
        sentence("REFUSALS: what was FULL is taken again after clear()");
        run(joined(ALL_FULL, "clear()"), "word(12)", 0, "constant(1, 1)", 1, "act(0, 1, 0)", 2, "claim(1)", 1, "assume(1)", 1, "push()", 1);
    }

    private static void lastCalls() {
        sentence("An object is used for at most 512 calls after it has been made");
        for (String call : new String[] {"word(1)", "claim(12)", "value(0, 5)", "great()", "cores()", "size(8, 3)", "values(8)"}) {
            lastCall(joined(ALL_FULL, times(MOST_CALLS - 1 - ALL_FULL.length, call)), "models()", 120);
        }
        lastCall(joined(times(255, "push()", "pop()"), "word(12)"), "models()", 4096);
        lastCall(joined(times(170, "word(12)", "act(7, 0, 0)", "clear()"), "word(12)"), "act(7, 0, 0)", 1);
        lastCall(joined(new String[] {"word(1)"}, times(170, "push()", "claim(0)", "pop()")), "models()", 2);
        lastCall(joined(new String[] {"word(1)"}, times(255, "assume(0)", "release()")), "models()", 2);
    }

    private static void lastCall(String[] before, String call, int want) {
        due("a test of the last call has so many before it", NEW, before.length, MOST_CALLS - 1);
        due(call + " as the last call", new String[] {before[0], "..", before[before.length - 1]}, new Run(before).ask(call), want);
    }

    /** Whatever the numbers are, in every state: each call answers, and a call that answers below 0 has changed nothing. */
    private static void anyNumbers() {
        sentence("REFUSALS are answers, whatever the numbers are");
        int[] numbers = {LEAST, LEAST + 1, -65536, -4096, -33, -32, -31, -13, -3, -1, 0, 1, 12, 13, 19, 24, 31, 32, 33, 4095, 4096, MOST - 1, MOST};
        String[] threes = {"act", "choose", "cut", "widen"};
        String[] twos = {"constant", "value", "where", "same", "size", "bound", "without"};
        String[] ones = {"word", "bits", "claim", "assume", "values", "certain", "core", "count"};
        for (String[] before : STATES) {
            for (String name : ones) {
                anyNumbers(before, name, numbers, new int[] {0}, new int[] {0});
            }
            for (String name : twos) {
                anyNumbers(before, name, numbers, numbers, new int[] {0});
            }
            for (String name : threes) {
                anyNumbers(before, name, numbers, numbers, numbers);
            }
        }
    }

    private static void anyNumbers(String[] before, String name, int[] first, int[] second, int[] third) {
        Run run = new Run(before);
        long marks = marksOf(run);
        for (int p : first) {
            for (int q : second) {
                for (int r : third) {
                    String call = name + "(" + p + (second.length > 1 ? ", " + q : "") + (third.length > 1 ? ", " + r : "") + ")";
                    int got = run.ask(call);
                    if (got < FULL) {
                        due(call + " is below FULL", before, got, FULL);
                    }
                    if (got < 0) {
                        due(call + " has changed the counts: 0", before, marksOf(run) == marks ? 0 : 1, 0);
                    }
                    boolean changed = got >= 0 && marksOf(run) != marks;
                    if (changed || run.calls > MOST_CALLS - 20) {
                        run = new Run(before);
                    }
                }
            }
        }
    }

    private static long marksOf(Run run) {
        long all = 0;
        for (int what = 0; what < 5; what++) {
            all = all * 32 + run.ask("count(" + what + ")");
        }
        return all * 8192 + run.ask("models()");
    }
}
