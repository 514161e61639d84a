/** Each promise by hand: ordinary inputs, the edges that the document names, and wrong inputs. */
public final class PromisesTest {
    private static final int NONE = BitSolver.NONE, BAD = BitSolver.BAD, FULL = BitSolver.FULL;
    private static final int LEAST = Integer.MIN_VALUE, MOST = Integer.MAX_VALUE;
    private static int wrong = 0;

    private static void due(String call, int got, int want) {
        if (got != want) {
            wrong++;
            System.out.println(call + " answered " + got + ", due is " + want);
        }
    }

    public static void main(String[] args) {
        constants();
        newObject();
        clear();
        word();
        constant();
        actsOnFourBits();
        actsOnOneBit();
        actsOnTwelveBits();
        actRefusals();
        choose();
        cut();
        widen();
        bits();
        claim();
        assumeAndRelease();
        levels();
        models();
        value();
        where();
        bound();
        values();
        certain();
        same();
        core();
        coreOrder();
        size();
        great();
        without();
        count();
        badBeforeFull();
        wordsMadeLater();
        System.out.println(wrong == 0 ? "all answers are as due" : wrong + " answers are not as due");
        if (wrong != 0) {
            System.exit(1);
        }
    }

    private static void state(String when, BitSolver x, int... due) {
        for (int what = 0; what < due.length; what++) {
            due(when + ", count(" + what + ")", x.count(what), due[what]);
        }
    }

    private static void fill(BitSolver x) {
        for (int i = x.count(0); i < 24; i++) {
            x.constant(1, 1);
        }
    }

    private static void constants() {
        due("NONE", NONE, -1);
        due("BAD", BAD, -2);
        due("FULL", FULL, -3);
    }

    private static void newObject() {
        BitSolver x = new BitSolver();
        state("new", x, 0, 0, 0, 0, 0);
        due("new models", x.models(), 1);
        due("new great", x.great(), 0);
        due("new cores", x.cores(), NONE);
        due("new core", x.core(0), NONE);
        due("new release", x.release(), 0);
        due("new pop", x.pop(), BAD);
        due("new bits", x.bits(0), BAD);
        due("new clear", x.clear(), 0);
    }

    private static void clear() {
        BitSolver x = new BitSolver();
        x.word(3);
        int one = x.constant(1, 1);
        int no = x.constant(1, 0);
        x.push();
        x.claim(one);
        x.assume(no);
        due("models before clear", x.models(), 0);
        due("clear", x.clear(), 3);
        state("cleared", x, 0, 0, 0, 0, 0);
        due("cleared models", x.models(), 1);
        due("cleared bits", x.bits(0), BAD);
        due("cleared pop", x.pop(), BAD);
        due("cleared again", x.clear(), 0);
        due("constant where a variable was", x.constant(3, 5), 0);
        due("no variable any more", x.without(0, false), BAD);
        due("word after clear", x.word(12), 1);
        due("models after clear", x.models(), 4096);
        due("value of the constant", x.value(0, 4095), 5);
        due("value of the word", x.value(1, 4095), 4095);
    }

    private static void word() {
        BitSolver x = new BitSolver();
        for (int bits : new int[] {0, -1, 13, LEAST, MOST}) {
            due("word(" + bits + ")", x.word(bits), BAD);
        }
        due("word(12)", x.word(12), 0);
        due("word(1) beyond 12 bits", x.word(1), FULL);
        due("word(13) beyond 12 bits", x.word(13), BAD);
        state("after refused words", x, 1, 12);
        due("models of 12 bits", x.models(), 4096);
        x.clear();
        for (int i = 0; i < 12; i++) {
            due("word(1) no " + i, x.word(1), i);
        }
        due("a thirteenth bit", x.word(1), FULL);
        due("first variable is first", x.value(0, 2048), 1);
        due("first variable before", x.value(0, 2047), 0);
        due("last variable is last", x.value(11, 1), 1);
        x.clear();
        fill(x);
        due("word as 25th term", x.word(1), FULL);
        due("bits of variables after that", x.count(1), 0);
    }

    private static void constant() {
        BitSolver x = new BitSolver();
        int[][] bad = {{0, 0}, {-1, 0}, {13, 0}, {LEAST, 0}, {MOST, 1}, {1, 2}, {1, -1}, {4, 16}, {12, 4096}, {12, LEAST}, {12, MOST}};
        for (int[] b : bad) {
            due("constant(" + b[0] + ", " + b[1] + ")", x.constant(b[0], b[1]), BAD);
        }
        due("constant(1, 1)", x.constant(1, 1), 0);
        due("constant(12, 4095)", x.constant(12, 4095), 1);
        due("constant(4, 0)", x.constant(4, 0), 2);
        due("its value", x.value(1, 0), 4095);
        due("its bits", x.bits(1), 12);
        due("no bits of variables", x.count(1), 0);
        fill(x);
        due("constant as 25th term", x.constant(1, 1), FULL);
        due("bad constant as 25th term", x.constant(1, 2), BAD);
        due("24 terms", x.count(0), 24);
    }

    /** Rows of: kind, a, b, due; all of n bits. */
    private static void acts(int n, int[][] rows) {
        for (int[] r : rows) {
            BitSolver x = new BitSolver();
            int a = x.constant(n, r[1]);
            int b = x.constant(n, r[2]);
            int made = x.act(r[0], a, b);
            String call = n + " bits, act " + r[0] + " on " + r[1] + " and " + r[2];
            due(call, x.value(made, 0), r[3]);
            due(call + ", bits", x.bits(made), r[0] >= 15 && r[0] <= 17 ? 1 : r[0] == 18 ? 2 * n : n);
        }
    }

    private static void actsOnFourBits() {
        acts(4, new int[][] {
            {0, 5, 0, 10}, {0, 0, 0, 15}, {1, 5, 0, 11}, {1, 0, 0, 0}, {1, 8, 0, 8},
            {2, 12, 10, 8}, {3, 12, 10, 14}, {4, 12, 10, 6},
            {5, 9, 9, 2}, {6, 3, 5, 14}, {7, 7, 7, 1},
            {8, 13, 4, 3}, {8, 13, 0, 15}, {8, 3, 4, 0}, {8, 0, 0, 15},
            {9, 13, 4, 1}, {9, 13, 0, 13}, {9, 3, 4, 3},
            {10, 9, 2, 13}, {10, 7, 14, 13}, {10, 9, 14, 3}, {10, 8, 15, 8}, {10, 9, 0, 1}, {10, 7, 0, 15}, {10, 0, 0, 15},
            {11, 9, 2, 15}, {11, 7, 14, 1}, {11, 9, 14, 15}, {11, 8, 15, 0}, {11, 9, 0, 9}, {11, 7, 0, 7},
            {12, 11, 0, 11}, {12, 11, 1, 6}, {12, 11, 3, 8}, {12, 11, 4, 0}, {12, 11, 15, 0},
            {13, 11, 0, 11}, {13, 11, 1, 5}, {13, 11, 3, 1}, {13, 11, 4, 0}, {13, 11, 15, 0},
            {14, 11, 0, 11}, {14, 11, 1, 13}, {14, 11, 3, 15}, {14, 11, 4, 15}, {14, 11, 15, 15}, {14, 7, 1, 3}, {14, 7, 9, 0},
            {15, 6, 6, 1}, {15, 6, 7, 0}, {16, 6, 7, 1}, {16, 6, 6, 0}, {16, 8, 7, 0},
            {17, 8, 7, 1}, {17, 7, 8, 0}, {17, 15, 0, 1}, {17, 8, 15, 1}, {17, 3, 3, 0},
            {18, 9, 3, 147},
            {19, 9, 0, 9}, {19, 9, 1, 3}, {19, 9, 3, 12}, {19, 9, 4, 9}, {19, 9, 5, 3}, {19, 9, 15, 12},
        });
    }

    private static void actsOnOneBit() {
        acts(1, new int[][] {
            {1, 1, 0, 1}, {5, 1, 1, 0}, {8, 0, 0, 1}, {9, 1, 0, 1}, {9, 1, 1, 0},
            {10, 1, 1, 1}, {10, 1, 0, 1}, {10, 0, 0, 1}, {10, 0, 1, 0}, {11, 1, 1, 0}, {11, 1, 0, 1},
            {12, 1, 1, 0}, {13, 1, 1, 0}, {14, 1, 1, 1}, {16, 0, 1, 1}, {17, 0, 1, 0}, {17, 1, 0, 1},
            {18, 1, 0, 2}, {19, 1, 1, 1},
        });
    }

    private static void actsOnTwelveBits() {
        BitSolver x = new BitSolver();
        int a = x.constant(12, 4095);
        int half = x.constant(12, 2048);
        due("4095 times 4095", x.value(x.act(7, a, a), 0), 1);
        due("4095 and 4095", x.value(x.act(5, a, a), 0), 4094);
        due("-2048 by -1", x.value(x.act(10, half, a), 0), 2048);
        due("4095 up by 4095", x.value(x.act(12, a, a), 0), 0);
        due("-2048 down by 4095", x.value(x.act(14, half, a), 0), 4095);
        due("2048 around by 4095", x.value(x.act(19, half, a), 0), 4);
        due("2048 around by 2048", x.value(x.act(19, half, half), 0), 128);
    }

    private static void actRefusals() {
        BitSolver x = new BitSolver();
        int a = x.word(4);
        int b = x.word(3);
        int wide = x.constant(9, 300);
        for (int kind = 0; kind <= 19; kind++) {
            due("act " + kind + " on no term", x.act(kind, 3, a), BAD);
            due("act " + kind + " on -1", x.act(kind, -1, a), BAD);
            if (kind >= 2) {
                due("act " + kind + " with no b", x.act(kind, a, 3), BAD);
                due("act " + kind + " with b -1", x.act(kind, a, LEAST), BAD);
            }
            if (kind >= 2 && kind != 18) {
                due("act " + kind + " on other bits", x.act(kind, a, b), BAD);
            }
        }
        for (int kind : new int[] {-1, 20, LEAST, MOST}) {
            due("act " + kind, x.act(kind, a, a), BAD);
        }
        due("18 of 13 bits", x.act(18, a, wide), BAD);
        due("18 of 12 bits", x.act(18, b, wide), 3);
        due("its bits", x.bits(3), 12);
        due("act 0 looks at no b", x.act(0, a, -7), 4);
        due("act 1 looks at no b", x.act(1, a, b), 5);
        due("bits of act 1", x.bits(5), 4);
        fill(x);
        due("act as 25th term", x.act(5, a, a), FULL);
        due("act 0 as 25th term", x.act(0, a, 0), FULL);
        due("bad act as 25th term", x.act(5, a, b), BAD);
        due("terms", x.count(0), 24);
    }

    private static void choose() {
        BitSolver x = new BitSolver();
        int c = x.word(1);
        int a = x.constant(4, 9);
        int b = x.word(4);
        int made = x.choose(c, a, b);
        due("choose", made, 3);
        due("choose bits", x.bits(made), 4);
        due("c is 0", x.value(made, 6), 6);
        due("c is 1", x.value(made, 16 + 6), 9);
        due("choose c of 4 bits", x.choose(a, a, b), BAD);
        due("choose of other bits", x.choose(c, a, c), BAD);
        due("choose no c", x.choose(4, a, b), BAD);
        due("choose no a", x.choose(c, -1, b), BAD);
        due("choose no b", x.choose(c, a, MOST), BAD);
        due("choose itself", x.value(x.choose(c, c, c), 16), 1);
        fill(x);
        due("choose as 25th term", x.choose(c, a, b), FULL);
        due("bad choose as 25th term", x.choose(a, a, b), BAD);
    }

    private static void cut() {
        BitSolver x = new BitSolver();
        int a = x.constant(6, 0b101101);
        due("cut(a, 0, 6)", x.value(x.cut(a, 0, 6), 0), 0b101101);
        due("cut(a, 2, 3)", x.value(x.cut(a, 2, 3), 0), 0b011);
        due("cut(a, 5, 1)", x.value(x.cut(a, 5, 1), 0), 1);
        due("bits of a cut", x.bits(2), 3);
        int[][] bad = {{0, 0}, {0, -1}, {0, 7}, {-1, 2}, {5, 2}, {6, 1}, {6, 0}, {MOST, 1}, {1, MOST}, {MOST, MOST}, {LEAST, 1}, {0, LEAST}, {LEAST, LEAST}};
        for (int[] b : bad) {
            due("cut(a, " + b[0] + ", " + b[1] + ")", x.cut(a, b[0], b[1]), BAD);
        }
        due("cut no term", x.cut(4, 0, 1), BAD);
        due("cut -1", x.cut(-1, 0, 1), BAD);
        fill(x);
        due("cut as 25th term", x.cut(a, 0, 1), FULL);
        due("bad cut as 25th term", x.cut(a, 0, 7), BAD);
    }

    private static void widen() {
        BitSolver x = new BitSolver();
        int a = x.constant(4, 9);
        int b = x.constant(4, 6);
        due("widen with 0s", x.value(x.widen(a, 8, false), 0), 9);
        due("widen with the sign", x.value(x.widen(a, 8, true), 0), 0xf9);
        due("widen with the sign 0", x.value(x.widen(b, 12, true), 0), 6);
        due("widen to 12", x.value(x.widen(a, 12, true), 0), 0xff9);
        due("bits", x.bits(5), 12);
        due("widen to as many", x.value(x.widen(a, 4, true), 0), 9);
        for (int bits : new int[] {3, 0, -1, 13, LEAST, MOST}) {
            due("widen to " + bits, x.widen(a, bits, false), BAD);
        }
        due("widen no term", x.widen(7, 8, false), BAD);
        due("widen -1", x.widen(-1, 8, true), BAD);
        fill(x);
        due("widen as 25th term", x.widen(a, 8, true), FULL);
        due("bad widen as 25th term", x.widen(a, 3, true), BAD);
        BitSolver y = new BitSolver();
        int word = y.word(3);
        due("a word by model 6, with its sign", y.value(y.widen(word, 5, true), 6), 30);
        due("a word by model 6, with 0s", y.value(y.widen(word, 5, false), 6), 6);
        due("values of a word with its sign", y.values(1), 8);
    }

    private static void bits() {
        BitSolver x = new BitSolver();
        x.word(7);
        x.constant(12, 1);
        due("bits(0)", x.bits(0), 7);
        due("bits(1)", x.bits(1), 12);
        for (int a : new int[] {2, 24, -1, LEAST, MOST}) {
            due("bits(" + a + ")", x.bits(a), BAD);
        }
    }

    private static void claim() {
        BitSolver x = new BitSolver();
        int a = x.word(1);
        int b = x.word(2);
        for (int bad : new int[] {b, 2, -1, LEAST, MOST}) {
            due("claim(" + bad + ")", x.claim(bad), BAD);
        }
        due("no claims", x.count(2), 0);
        for (int i = 1; i <= 16; i++) {
            due("claim " + i, x.claim(a), i);
        }
        due("claim 17", x.claim(a), FULL);
        due("bad claim 17", x.claim(b), BAD);
        due("claims", x.count(2), 16);
        due("models", x.models(), 4);
        due("value", x.value(a, 0), 1);
    }

    private static void assumeAndRelease() {
        BitSolver x = new BitSolver();
        int a = x.word(1);
        int b = x.word(2);
        for (int bad : new int[] {b, 2, -1, LEAST, MOST}) {
            due("assume(" + bad + ")", x.assume(bad), BAD);
        }
        for (int i = 1; i <= 8; i++) {
            due("assume " + i, x.assume(a), i);
        }
        due("assume 9", x.assume(a), FULL);
        due("bad assume 9", x.assume(b), BAD);
        due("models", x.models(), 4);
        due("claims are others", x.count(2), 0);
        due("release", x.release(), 8);
        due("models after it", x.models(), 8);
        due("release again", x.release(), 0);
        due("assumed", x.count(3), 0);
        x.claim(a);
        x.assume(a);
        x.release();
        due("a claim stays", x.models(), 4);
    }

    private static void levels() {
        BitSolver x = new BitSolver();
        int a = x.word(1);
        int b = x.word(1);
        int c = x.word(1);
        due("pop without a level", x.pop(), BAD);
        x.claim(a);
        due("push", x.push(), 1);
        x.claim(b);
        due("push", x.push(), 2);
        x.assume(c);
        due("models of all", x.models(), 1);
        due("pop an empty level", x.pop(), 0);
        due("assumed stays", x.count(3), 1);
        due("levels", x.count(4), 1);
        x.claim(b);
        int d = x.act(0, a, 0);
        due("pop", x.pop(), 2);
        due("terms stay", x.bits(d), 1);
        due("claims", x.count(2), 1);
        due("models then", x.models(), 2);
        due("pop without one", x.pop(), BAD);
        for (int i = 1; i <= 8; i++) {
            due("push " + i, x.push(), i);
            x.claim(a);
        }
        due("push 9", x.push(), FULL);
        due("levels are 8", x.count(4), 8);
        due("claims are 9", x.count(2), 9);
        due("pop of the eighth", x.pop(), 1);
        due("push again", x.push(), 8);
        x.clear();
        int e = x.word(2);
        int low = x.cut(e, 0, 1);
        x.push();
        x.claim(low);
        due("models with a claim", x.models(), 2);
        due("pop of one claim", x.pop(), 1);
        due("models without it", x.models(), 4);
    }

    private static void models() {
        BitSolver x = new BitSolver();
        int one = x.constant(1, 1);
        due("no variables", x.models(), 1);
        x.claim(one);
        due("a claim that holds", x.models(), 1);
        int a = x.word(5);
        due("five bits", x.models(), 32);
        int b = x.word(5);
        due("ten bits", x.models(), 1024);
        x.claim(x.act(16, a, b));
        due("a less", x.models(), 496);
        x.assume(x.constant(1, 0));
        due("0 is assumed", x.models(), 0);
    }

    /** Words a and b of 3 bits with a less than b: the models 0 .. 27. */
    private static BitSolver ordered() {
        BitSolver x = new BitSolver();
        x.word(3);
        x.word(3);
        x.act(16, 0, 1);
        x.act(5, 0, 1);
        x.claim(2);
        return x;
    }

    private static BitSolver unmet() {
        BitSolver x = ordered();
        x.assume(x.constant(1, 0));
        return x;
    }

    private static void value() {
        BitSolver x = ordered();
        due("models", x.models(), 28);
        due("a by model 0", x.value(0, 0), 0);
        due("b by model 0", x.value(1, 0), 1);
        due("a by model 7", x.value(0, 7), 1);
        due("b by model 7", x.value(1, 7), 2);
        due("a by model 27", x.value(0, 27), 6);
        due("sum by model 27", x.value(3, 27), 5);
        due("claim by model 3", x.value(2, 3), 1);
        for (int k : new int[] {28, -1, LEAST, MOST}) {
            due("value(0, " + k + ")", x.value(0, k), NONE);
            due("value(4, " + k + ")", x.value(4, k), BAD);
        }
        due("value(-1, 0)", x.value(-1, 0), BAD);
        due("value without models", unmet().value(0, 0), NONE);
    }

    private static void where() {
        BitSolver x = ordered();
        due("where a is 0", x.where(0, 0), 0);
        due("where a is 1", x.where(0, 1), 7);
        due("where b is 7", x.where(1, 7), 6);
        due("where a is 7", x.where(0, 7), NONE);
        due("where sum is 0", x.where(3, 0), 12);
        for (int v : new int[] {8, -1, LEAST, MOST}) {
            due("where(0, " + v + ")", x.where(0, v), BAD);
        }
        due("where(2, 2)", x.where(2, 2), BAD);
        due("where no term", x.where(4, 0), BAD);
        due("where -1", x.where(-1, 0), BAD);
        due("where without models", unmet().where(0, 0), NONE);
    }

    private static void bound() {
        BitSolver x = ordered();
        due("least a", x.bound(0, false), 0);
        due("greatest a", x.bound(0, true), 6);
        due("least b", x.bound(1, false), 1);
        due("greatest by model 1 alone", x.bound(x.act(15, x.act(18, 0, 1), x.constant(6, 2)), true), 1);
        due("greatest b", x.bound(1, true), 7);
        due("bound no term", x.bound(x.count(0), true), BAD);
        due("bound -1", x.bound(-1, false), BAD);
        due("bound without models", unmet().bound(0, true), NONE);
        due("bad bound without models", unmet().bound(9, true), BAD);
    }

    private static void values() {
        BitSolver x = ordered();
        due("values of a", x.values(0), 7);
        due("values of the claim", x.values(2), 1);
        due("values of the sum", x.values(3), 8);
        due("values of no term", x.values(4), BAD);
        due("values of -1", x.values(-1), BAD);
        due("values without models", unmet().values(0), 0);
        BitSolver y = new BitSolver();
        y.word(12);
        due("values of 12 bits", y.values(0), 4096);
        due("values of 12 bits again", y.values(0), 4096);
    }

    private static void certain() {
        BitSolver x = new BitSolver();
        int a = x.word(4);
        due("nothing certain", x.certain(a), 0);
        x.claim(x.cut(a, 1, 1));
        due("bit 1 is 1", x.certain(a), 2);
        x.claim(x.act(0, x.cut(a, 3, 1), 0));
        due("bit 3 is 0", x.certain(a), 10);
        due("a constant", x.certain(x.constant(12, 5)), 4095);
        due("no term", x.certain(24), BAD);
        due("-1", x.certain(-1), BAD);
        due("without models", unmet().certain(0), NONE);
        due("bad without models", unmet().certain(9), BAD);
        BitSolver y = new BitSolver();
        int b = y.word(2);
        due("not by the first model alone", y.certain(y.act(15, b, y.constant(2, 0))), 0);
        due("not by the second model alone", y.certain(y.act(15, b, y.constant(2, 1))), 0);
        due("not by the last model alone", y.certain(y.act(15, b, y.constant(2, 3))), 0);
    }

    private static void same() {
        BitSolver x = ordered();
        due("a and b", x.same(0, 1), 0);
        due("a and a", x.same(0, 0), 1);
        due("the claim and 1", x.same(2, x.constant(1, 1)), 1);
        due("sums", x.same(3, x.act(5, 1, 0)), 1);
        due("other bits", x.same(0, 2), BAD);
        due("no a", x.same(6, 0), BAD);
        due("no b", x.same(0, -1), BAD);
        due("without models", unmet().same(0, 1), 1);
        BitSolver y = new BitSolver();
        int c = y.word(2);
        int no = y.constant(1, 0);
        due("other by the first model alone", y.same(no, y.act(15, c, y.constant(2, 0))), 0);
        due("other by the last model alone", y.same(no, y.act(15, c, y.constant(2, 3))), 0);
        due("other bits without models", unmet().same(0, 2), BAD);
    }

    private static void core() {
        BitSolver x = ordered();
        int less = x.act(16, 1, 0);
        int zero = x.act(15, 0, x.constant(3, 0));
        due("cores with models", x.cores(), NONE);
        due("core with models", x.core(0), NONE);
        x.assume(zero);
        due("cores with models yet", x.cores(), NONE);
        x.assume(less);
        due("cores", x.cores(), 1);
        due("core(0)", x.core(0), less);
        for (int k : new int[] {1, 8, -1, LEAST, MOST}) {
            due("core(" + k + ")", x.core(k), NONE);
        }
        x.release();
        due("cores after release", x.cores(), NONE);
        x.claim(less);
        x.assume(zero);
        due("cores if claims alone can't be met", x.cores(), 0);
        due("core if claims alone can't be met", x.core(0), NONE);
        BitSolver y = new BitSolver();
        int yes = y.constant(1, 1);
        int no = y.constant(1, 0);
        y.assume(yes);
        due("cores with one model", y.cores(), NONE);
        due("core with one model", y.core(0), NONE);
        y.assume(no);
        y.assume(yes);
        due("cores around it", y.cores(), 1);
        due("core around it", y.core(0), no);
        due("core(1)", y.core(1), NONE);
        y.release();
        int a = y.word(1);
        int notA = y.act(0, a, 0);
        for (int i = 0; i < 4; i++) {
            y.assume(yes);
        }
        y.assume(a);
        y.assume(yes);
        y.assume(yes);
        y.assume(notA);
        due("the last of eight", y.count(3), 8);
        due("cores of eight", y.cores(), 2);
        due("the first of eight", y.core(0), a);
        due("the second of eight", y.core(1), notA);
    }

    private static void coreOrder() {
        BitSolver x = new BitSolver();
        int a = x.word(1);
        int b = x.word(1);
        int c = x.word(1);
        int notA = x.act(0, a, 0);
        int notB = x.act(0, b, 0);
        int equal = x.act(15, a, b);
        x.assume(a);
        x.assume(notB);
        x.assume(c);
        x.assume(equal);
        x.assume(b);
        x.assume(notA);
        // a goes (b, notB stay); notB goes (equal, b, notA stay); c goes; the others are needed.
        due("cores", x.cores(), 3);
        due("core(0)", x.core(0), equal);
        due("core(1)", x.core(1), b);
        due("core(2)", x.core(2), notA);
        due("core(3)", x.core(3), NONE);
        x.release();
        x.claim(notA);
        x.assume(a);
        x.assume(a);
        due("the same twice", x.cores(), 1);
        x.release();
        x.assume(b);
        x.assume(notB);
        due("the first stays", x.core(0), b);
        due("and the second", x.core(1), notB);
        x.release();
        x.assume(a);
        x.assume(a);
        due("its term", x.core(0), a);
        due("assumed stay two", x.count(3), 2);
    }

    private static void size() {
        BitSolver x = new BitSolver();
        int a = x.word(3);
        int b = x.word(3);
        int equal = x.act(15, a, b);
        due("one bit", x.size(a, 0), 1);
        due("highest bit", x.size(b, 2), 1);
        // Ways after a's bits: 1 + 2 + 4 for a, then 8 + 4 + 2 for what b must be.
        due("equal", x.size(equal, 0), 21);
        int sum = x.act(4, a, b);
        due("xor of two bits", x.size(sum, 1), 3);
        due("and of two bits", x.size(x.act(2, a, b), 1), 2);
        due("a constant", x.size(x.constant(4, 9), 3), 0);
        int mux = x.choose(x.cut(a, 2, 1), x.cut(a, 1, 1), x.cut(a, 0, 1));
        due("one of two bits, by a third", x.size(mux, 0), 3);
        x.word(6);
        due("bits behind change nothing", x.size(equal, 0), 21);
        for (int i : new int[] {3, -1, LEAST, MOST}) {
            due("size(a, " + i + ")", x.size(a, i), BAD);
        }
        due("size(equal, 1)", x.size(equal, 1), BAD);
        due("size of no term", x.size(x.count(0), 0), BAD);
        due("size of -1", x.size(-1, 0), BAD);
    }

    private static void great() {
        BitSolver x = new BitSolver();
        due("no variables", x.great(), 0);
        int a = x.word(6);
        int b = x.word(6);
        due("all are models", x.great(), 0);
        int equal = x.act(15, a, b);
        x.claim(equal);
        due("equal", x.great(), 63 + 126);
        due("as its size", x.size(equal, 0), 63 + 126);
        x.assume(x.act(15, a, x.constant(6, 0)));
        due("just one model", x.great(), 12);
        x.assume(x.act(16, a, b));
        due("none", x.great(), 0);
    }

    private static void without() {
        BitSolver x = ordered();
        due("some a", x.without(0, false), 7);
        due("some b", x.without(1, false), 7);
        due("each a", x.without(0, true), 0);
        due("no variable", x.without(2, false), BAD);
        due("no term", x.without(4, false), BAD);
        due("-1", x.without(-1, true), BAD);
        due("without models", unmet().without(0, false), 0);
        BitSolver y = new BitSolver();
        int a = y.word(2);
        due("the only variable, some", y.without(a, false), 1);
        due("the only variable, each", y.without(a, true), 1);
        int b = y.word(3);
        int c = y.word(2);
        due("a cut is no variable", y.without(y.cut(a, 0, 2), false), BAD);
        due("each b without claims", y.without(b, true), 16);
        y.claim(y.act(16, a, c));
        due("some b", y.without(b, false), 6);
        due("each b", y.without(b, true), 6);
        due("some a, c at least 1", y.without(a, false), 24);
        due("each a", y.without(a, true), 0);
        y.assume(y.act(15, b, y.constant(3, 5)));
        due("some b is 5", y.without(b, false), 6);
        due("not each b is 5", y.without(b, true), 0);
    }

    private static void count() {
        BitSolver x = ordered();
        x.assume(2);
        x.assume(2);
        x.push();
        x.push();
        x.push();
        state("count", x, 4, 6, 1, 2, 3);
        for (int what : new int[] {5, -1, LEAST, MOST}) {
            due("count(" + what + ")", x.count(what), BAD);
        }
    }

    private static void badBeforeFull() {
        BitSolver x = new BitSolver();
        x.word(12);
        fill(x);
        due("word(0)", x.word(0), BAD);
        due("word(1)", x.word(1), FULL);
        due("choose no c", x.choose(-1, 0, 0), BAD);
        due("widen(0, 11, true)", x.widen(0, 11, true), BAD);
        due("act(18, 0, 0)", x.act(18, 0, 0), BAD);
        state("nothing has changed", x, 24, 12, 0, 0, 0);
    }

    private static void wordsMadeLater() {
        BitSolver x = new BitSolver();
        int a = x.word(2);
        int c = x.act(0, x.cut(a, 1, 1), 0);
        x.claim(c);
        due("before", x.models(), 2);
        int b = x.word(2);
        due("after", x.models(), 8);
        due("a by model 4", x.value(a, 4), 1);
        due("b by model 4", x.value(b, 4), 0);
        due("b by model 7", x.value(b, 7), 3);
        due("where b is 3", x.where(b, 3), 3);
    }
}
