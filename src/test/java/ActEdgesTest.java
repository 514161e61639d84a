import java.util.ArrayList;
import java.util.List;

/**
 * What each act answers at its edges: where its numbers leave their bits, where it divides by 0, where bits are
 * moved out. Each sentence of the document has rows by hand; then all numbers of few bits, and the edges of
 * more bits, are looked up by a slow second telling of the acts, one bit or one step at a time.
 */
public final class ActEdgesTest {
    private static final int BAD = BitSolver.BAD;
    private static final int MOST_PRINTED = 100;
    private static String sentence = "";
    private static int sentences = 0;
    private static int wrong = 0;

    public static void main(String[] args) {
        notAndNegated();
        bitByBit();
        sums();
        products();
        quotients();
        quotientsBy0();
        signedQuotients();
        signedQuotientsBy0();
        movedUp();
        movedDown();
        movedDownWithSign();
        compared();
        above();
        around();
        wrapsInClaims();
        allOfFewBits();
        edgesOfMoreBits();
        System.out.println(sentences + " sentences: " + (wrong == 0 ? "all answers are as due" : wrong + " answers are not as due"));
        if (wrong != 0) {
            System.exit(1);
        }
    }

    private static void sentence(String text) {
        sentence = text;
        sentences++;
    }

    private static void due(String call, int got, int want) {
        if (got != want) {
            wrong++;
            if (wrong <= MOST_PRINTED) {
                System.out.println("'" + sentence + "': " + call + " answered " + got + ", due is " + want);
            }
        }
    }

    /** Rows of a, b and what is due, all of n bits: on constants, and on variables by the model that has these numbers. */
    private static void rows(int kind, int n, int[]... rows) {
        for (int[] r : rows) {
            BitSolver x = new BitSolver();
            int made = x.act(kind, x.constant(n, r[0]), x.constant(n, r[1]));
            String call = "act " + kind + " on " + r[0] + " and " + r[1] + " of " + n + " bits";
            due(call, x.value(made, 0), r[2]);
            if (2 * n <= 12) {
                BitSolver y = new BitSolver();
                int a = y.word(n);
                int b = y.word(n);
                int ofWords = y.act(kind, a, b);
                due(call + ", by model", y.value(ofWords, (r[0] << n) + r[1]), r[2]);
            }
        }
    }

    private static void notAndNegated() {
        sentence("0 NOT: each bit of a is the other one");
        rows(0, 1, new int[][] {{0, 0, 1}, {1, 0, 0}});
        rows(0, 4, new int[][] {{0, 0, 15}, {15, 0, 0}, {5, 0, 10}, {8, 0, 7}});
        rows(0, 12, new int[][] {{0, 0, 4095}, {4095, 0, 0}, {2048, 0, 2047}, {1, 0, 4094}});
        sentence("1: 0 less a");
        rows(1, 1, new int[][] {{0, 0, 0}, {1, 0, 1}});
        rows(1, 4, new int[][] {{0, 0, 0}, {1, 0, 15}, {7, 0, 9}, {8, 0, 8}, {9, 0, 7}, {15, 0, 1}});
        rows(1, 12, new int[][] {{0, 0, 0}, {1, 0, 4095}, {2048, 0, 2048}, {4095, 0, 1}});
    }

    private static void bitByBit() {
        sentence("2 and");
        rows(2, 1, new int[][] {{0, 0, 0}, {0, 1, 0}, {1, 0, 0}, {1, 1, 1}});
        rows(2, 12, new int[][] {{4095, 4095, 4095}, {4095, 0, 0}, {2730, 1365, 0}, {3276, 2730, 2184}});
        sentence("3 or");
        rows(3, 1, new int[][] {{0, 0, 0}, {0, 1, 1}, {1, 0, 1}, {1, 1, 1}});
        rows(3, 12, new int[][] {{4095, 4095, 4095}, {4095, 0, 4095}, {2730, 1365, 4095}, {0, 0, 0}});
        sentence("4 xor");
        rows(4, 1, new int[][] {{0, 0, 0}, {0, 1, 1}, {1, 0, 1}, {1, 1, 0}});
        rows(4, 12, new int[][] {{4095, 4095, 0}, {4095, 0, 4095}, {2730, 4095, 1365}, {2048, 2049, 1}});
    }

    private static void sums() {
        sentence("5 a and b added (the lowest n bits)");
        rows(5, 1, new int[][] {{0, 1, 1}, {1, 1, 0}});
        rows(5, 4, new int[][] {{7, 8, 15}, {8, 8, 0}, {15, 1, 0}, {1, 15, 0}, {15, 15, 14}, {0, 0, 0}});
        rows(5, 12, new int[][] {{4094, 1, 4095}, {4095, 1, 0}, {2048, 2048, 0}, {4095, 4095, 4094}});
        sentence("6 a less b (the lowest n bits)");
        rows(6, 1, new int[][] {{0, 1, 1}, {1, 1, 0}, {1, 0, 1}});
        rows(6, 4, new int[][] {{0, 0, 0}, {0, 1, 15}, {0, 15, 1}, {8, 8, 0}, {7, 8, 15}, {15, 15, 0}});
        rows(6, 12, new int[][] {{0, 1, 4095}, {0, 4095, 1}, {2047, 2048, 4095}, {4095, 0, 4095}});
    }

    private static void products() {
        sentence("7 a times b (the lowest n bits)");
        rows(7, 1, new int[][] {{1, 1, 1}, {1, 0, 0}});
        rows(7, 4, new int[][] {{3, 5, 15}, {4, 4, 0}, {15, 15, 1}, {8, 2, 0}, {8, 3, 8}, {5, 5, 9}, {0, 15, 0}});
        rows(7, 12, new int[][] {{4095, 4095, 1}, {64, 64, 0}, {63, 65, 4095}, {2048, 2, 0}, {2048, 3, 2048}, {2048, 2048, 0}});
    }

    private static void quotients() {
        sentence("8 the quotient of a by b, the part behind the point left out");
        rows(8, 1, new int[][] {{0, 1, 0}, {1, 1, 1}});
        rows(8, 4, new int[][] {{15, 1, 15}, {15, 15, 1}, {14, 15, 0}, {15, 2, 7}, {15, 8, 1}, {7, 8, 0}, {0, 1, 0}, {8, 3, 2}});
        rows(8, 12, new int[][] {{4095, 1, 4095}, {4095, 4095, 1}, {4094, 4095, 0}, {4095, 2048, 1}, {2047, 2048, 0}});
        sentence("9 what is left of a then");
        rows(9, 1, new int[][] {{0, 1, 0}, {1, 1, 0}});
        rows(9, 4, new int[][] {{15, 1, 0}, {15, 15, 0}, {14, 15, 14}, {15, 2, 1}, {15, 8, 7}, {7, 8, 7}, {0, 1, 0}, {8, 3, 2}});
        rows(9, 12, new int[][] {{4095, 1, 0}, {4094, 4095, 4094}, {4095, 2048, 2047}, {4095, 4094, 1}});
    }

    private static void quotientsBy0() {
        sentence("8 by 0: all bits 1");
        rows(8, 1, new int[][] {{0, 0, 1}, {1, 0, 1}});
        rows(8, 4, new int[][] {{0, 0, 15}, {1, 0, 15}, {8, 0, 15}, {15, 0, 15}});
        rows(8, 12, new int[][] {{0, 0, 4095}, {1, 0, 4095}, {2048, 0, 4095}, {4095, 0, 4095}});
        sentence("9 by 0: a");
        rows(9, 1, new int[][] {{0, 0, 0}, {1, 0, 1}});
        rows(9, 4, new int[][] {{0, 0, 0}, {1, 0, 1}, {8, 0, 8}, {15, 0, 15}});
        rows(9, 12, new int[][] {{0, 0, 0}, {1, 0, 1}, {2048, 0, 2048}, {4095, 0, 4095}});
    }

    private static void signedQuotients() {
        sentence("10 likewise, a and b being numbers with a sign: the quotient goes to 0");
        // 7 by 2, -7 by 2, 7 by -2, -7 by -2; then -1 by 2, 1 by -2.
        rows(10, 4, new int[][] {{7, 2, 3}, {9, 2, 13}, {7, 14, 13}, {9, 14, 3}, {15, 2, 0}, {1, 14, 0}, {8, 1, 8}, {8, 8, 1}, {7, 8, 0}, {8, 7, 15}});
        rows(10, 12, new int[][] {{2047, 2, 1023}, {2049, 2, 3073}, {2047, 4094, 3073}, {2049, 4094, 1023}, {2048, 1, 2048}, {2047, 2048, 0}});
        sentence("10: the one quotient that leaves its bits, the least number by -1");
        rows(10, 1, new int[][] {{1, 1, 1}, {0, 1, 0}});
        rows(10, 2, new int[][] {{2, 3, 2}});
        rows(10, 4, new int[][] {{8, 15, 8}, {9, 15, 7}, {7, 15, 9}});
        rows(10, 12, new int[][] {{2048, 4095, 2048}, {2049, 4095, 2047}, {2047, 4095, 2049}});
        sentence("11: what is left has a's sign");
        rows(11, 4, new int[][] {{7, 2, 1}, {9, 2, 15}, {7, 14, 1}, {9, 14, 15}, {15, 2, 15}, {1, 14, 1}, {8, 8, 0}, {7, 8, 7}, {8, 7, 15}, {8, 3, 14}});
        rows(11, 12, new int[][] {{2047, 2, 1}, {2049, 2, 4095}, {2047, 4094, 1}, {2049, 4094, 4095}, {2047, 2048, 2047}, {2048, 2047, 4095}});
        sentence("11: nothing is left of the least number by -1");
        rows(11, 1, new int[][] {{1, 1, 0}, {0, 1, 0}});
        rows(11, 4, new int[][] {{8, 15, 0}});
        rows(11, 12, new int[][] {{2048, 4095, 0}});
    }

    private static void signedQuotientsBy0() {
        sentence("10 by 0: the quotient is 1 if a is below 0, else -1");
        rows(10, 1, new int[][] {{1, 0, 1}, {0, 0, 1}});
        rows(10, 2, new int[][] {{3, 0, 1}, {2, 0, 1}, {1, 0, 3}, {0, 0, 3}});
        rows(10, 4, new int[][] {{15, 0, 1}, {8, 0, 1}, {7, 0, 15}, {1, 0, 15}, {0, 0, 15}});
        rows(10, 12, new int[][] {{4095, 0, 1}, {2048, 0, 1}, {2047, 0, 4095}, {0, 0, 4095}});
        sentence("11 by 0: a is left");
        rows(11, 1, new int[][] {{1, 0, 1}, {0, 0, 0}});
        rows(11, 4, new int[][] {{15, 0, 15}, {8, 0, 8}, {7, 0, 7}, {0, 0, 0}});
        rows(11, 12, new int[][] {{4095, 0, 4095}, {2048, 0, 2048}, {2047, 0, 2047}, {0, 0, 0}});
    }

    private static void movedUp() {
        sentence("12 a with its bits moved up by b places, 0s below");
        rows(12, 1, new int[][] {{1, 0, 1}, {1, 1, 0}});
        rows(12, 4, new int[][] {{11, 0, 11}, {11, 1, 6}, {11, 3, 8}, {15, 3, 8}});
        rows(12, 12, new int[][] {{4095, 1, 4094}, {4095, 11, 2048}, {1, 11, 2048}, {2, 11, 0}});
        sentence("12 by n or more: all are moved out");
        rows(12, 4, new int[][] {{15, 4, 0}, {15, 5, 0}, {15, 8, 0}, {15, 15, 0}});
        rows(12, 12, new int[][] {{4095, 12, 0}, {4095, 13, 0}, {4095, 31, 0}, {4095, 32, 0}, {4095, 33, 0}, {4095, 64, 0}, {4095, 4095, 0}});
    }

    private static void movedDown() {
        sentence("13 down, 0s above");
        rows(13, 1, new int[][] {{1, 0, 1}, {1, 1, 0}});
        rows(13, 4, new int[][] {{11, 0, 11}, {11, 1, 5}, {11, 3, 1}, {15, 3, 1}, {7, 3, 0}});
        rows(13, 12, new int[][] {{4095, 1, 2047}, {4095, 11, 1}, {2048, 11, 1}, {2047, 11, 0}});
        sentence("13 by n or more: all are moved out");
        rows(13, 4, new int[][] {{15, 4, 0}, {15, 5, 0}, {15, 8, 0}, {15, 15, 0}});
        rows(13, 12, new int[][] {{4095, 12, 0}, {4095, 13, 0}, {4095, 31, 0}, {4095, 32, 0}, {4095, 33, 0}, {4095, 64, 0}, {4095, 4095, 0}});
    }

    private static void movedDownWithSign() {
        sentence("14 down, above bits like its highest one");
        rows(14, 1, new int[][] {{1, 0, 1}, {0, 0, 0}, {1, 1, 1}, {0, 1, 0}});
        rows(14, 4, new int[][] {{11, 0, 11}, {11, 1, 13}, {11, 3, 15}, {8, 2, 14}, {7, 0, 7}, {7, 1, 3}, {7, 2, 1}, {7, 3, 0}});
        rows(14, 12, new int[][] {{2048, 1, 3072}, {2048, 11, 4095}, {2047, 10, 1}, {2047, 11, 0}});
        sentence("14 by n or more: all are moved out");
        rows(14, 4, new int[][] {{8, 4, 15}, {8, 5, 15}, {8, 15, 15}, {7, 4, 0}, {7, 5, 0}, {7, 15, 0}});
        rows(14, 12, new int[][] {{2048, 12, 4095}, {2048, 13, 4095}, {2048, 31, 4095}, {2048, 32, 4095}, {2048, 33, 4095}, {2048, 4095, 4095},
            {2047, 12, 0}, {2047, 31, 0}, {2047, 32, 0}, {2047, 33, 0}, {2047, 4095, 0}});
    }

    private static void compared() {
        sentence("15 one bit: whether a and b are the same");
        rows(15, 1, new int[][] {{0, 0, 1}, {1, 1, 1}, {0, 1, 0}, {1, 0, 0}});
        rows(15, 12, new int[][] {{4095, 4095, 1}, {4095, 4094, 0}, {0, 2048, 0}, {2048, 2048, 1}, {0, 4095, 0}});
        sentence("16: whether a is less");
        rows(16, 1, new int[][] {{0, 0, 0}, {1, 1, 0}, {0, 1, 1}, {1, 0, 0}});
        rows(16, 4, new int[][] {{7, 8, 1}, {8, 7, 0}, {8, 8, 0}, {0, 15, 1}, {15, 0, 0}, {15, 15, 0}, {14, 15, 1}});
        rows(16, 12, new int[][] {{2047, 2048, 1}, {2048, 2047, 0}, {0, 4095, 1}, {4095, 0, 0}, {4095, 4095, 0}, {4094, 4095, 1}});
        sentence("17: whether it is less, both with a sign");
        rows(17, 1, new int[][] {{0, 0, 0}, {1, 1, 0}, {0, 1, 0}, {1, 0, 1}});
        rows(17, 4, new int[][] {{7, 8, 0}, {8, 7, 1}, {8, 8, 0}, {0, 15, 0}, {15, 0, 1}, {15, 15, 0}, {14, 15, 1}, {8, 9, 1}, {9, 8, 0}, {6, 7, 1}});
        rows(17, 12, new int[][] {{2047, 2048, 0}, {2048, 2047, 1}, {0, 4095, 0}, {4095, 0, 1}, {4095, 4095, 0}, {2048, 4095, 1}, {4095, 2048, 0}});
    }

    private static void above() {
        sentence("18: a above b: a's bits are the upper ones");
        rows(18, 1, new int[][] {{1, 0, 2}, {0, 1, 1}, {1, 1, 3}});
        rows(18, 6, new int[][] {{63, 0, 4032}, {0, 63, 63}, {63, 63, 4095}, {32, 1, 2049}, {1, 32, 96}});
        BitSolver x = new BitSolver();
        int one = x.constant(1, 1);
        int eleven = x.constant(11, 1);
        due("1 above 11 bits", x.value(x.act(18, one, eleven), 0), 2049);
        due("11 above 1 bit", x.value(x.act(18, eleven, one), 0), 3);
        due("11 above 11 bits", x.act(18, eleven, eleven), BAD);
    }

    private static void around() {
        sentence("19 a with its bits moved up by b places, those that go out above coming in below");
        rows(19, 1, new int[][] {{1, 0, 1}, {0, 0, 0}, {0, 1, 0}});
        rows(19, 4, new int[][] {{9, 0, 9}, {9, 1, 3}, {9, 2, 6}, {9, 3, 12}, {8, 1, 1}, {15, 3, 15}, {0, 3, 0}});
        rows(19, 12, new int[][] {{2048, 1, 1}, {1, 11, 2048}, {2049, 1, 3}, {4094, 11, 2047}});
        sentence("19 (b may be n, or more)");
        rows(19, 1, new int[][] {{1, 1, 1}});
        rows(19, 3, new int[][] {{4, 3, 4}, {4, 4, 1}, {4, 6, 4}, {4, 7, 1}});
        rows(19, 4, new int[][] {{9, 4, 9}, {9, 5, 3}, {9, 7, 12}, {9, 8, 9}, {9, 15, 12}});
        // 4095 is 341 times 12 and 3 more, and 32 is twice 12 and 8 more.
        rows(19, 12, new int[][] {{2048, 12, 2048}, {2048, 13, 1}, {2048, 24, 2048}, {2048, 25, 1}, {1, 32, 256}, {1, 4095, 8}, {1, 4092, 1}});
    }

    /** The same wraps, as what claims find: numbers that are greater than themselves and 1. */
    private static void wrapsInClaims() {
        sentence("an act that wraps around, by models");
        for (int n = 1; n <= 12; n++) {
            int last = (1 << n) - 1;
            BitSolver x = new BitSolver();
            int a = x.word(n);
            int one = x.constant(n, 1);
            int more = x.act(5, a, one);
            int fewer = x.act(6, a, one);
            x.assume(x.act(16, more, a));
            due("a and 1 is less than a, models", x.models(), 1);
            due("a and 1 is less than a, a", x.value(a, 0), last);
            due("a and 1 is less than a, a and 1", x.value(more, 0), 0);
            x.release();
            x.assume(x.act(16, a, fewer));
            due("a is less than a less 1, models", x.models(), 1);
            due("a is less than a less 1, a", x.value(a, 0), 0);
            due("a is less than a less 1, a less 1", x.value(fewer, 0), last);
            x.release();
            int negated = x.act(1, a, a);
            x.assume(x.act(15, a, negated));
            due("a is 0 less a, models", x.models(), 2);
            due("a is 0 less a, first", x.value(a, 0), 0);
            due("a is 0 less a, last", x.value(a, 1), 1 << (n - 1));
            x.release();
            due("numbers of 0 less a", x.values(negated), 1 << n);
            due("numbers of a and a", x.values(x.act(5, a, a)), 1 << (n - 1));
        }
    }

    private static void allOfFewBits() {
        for (int n = 1; n <= 4; n++) {
            sentence("all acts on all numbers of " + n + " bits");
            for (int kind = 0; kind <= 19; kind++) {
                BitSolver x = new BitSolver();
                int made = x.act(kind, x.word(n), x.word(n));
                for (int k = 0; k < 1 << (2 * n); k++) {
                    int a = k >> n;
                    int b = k % (1 << n);
                    due("act " + kind + " on " + a + " and " + b, x.value(made, k), slow(kind, n, a, b));
                }
            }
        }
    }

    private static void edgesOfMoreBits() {
        for (int n = 5; n <= 12; n++) {
            sentence("all acts on edges of " + n + " bits");
            List<Integer> edges = edges(n);
            for (int a : edges) {
                for (int b : edges) {
                    BitSolver x = new BitSolver();
                    int left = x.constant(n, a);
                    int right = x.constant(n, b);
                    for (int kind = 0; kind <= 19; kind++) {
                        if (kind == 18 && n > 6) {
                            due("act 18", x.act(kind, left, right), BAD);
                        } else {
                            due("act " + kind + " on " + a + " and " + b, x.value(x.act(kind, left, right), 0), slow(kind, n, a, b));
                        }
                    }
                }
            }
        }
    }

    private static List<Integer> edges(int n) {
        int half = 1 << (n - 1);
        int[] all = {0, 1, 2, 3, n - 1, n, n + 1, 2 * n - 1, 2 * n, 2 * n + 1, 31, 32, 33, half - 1, half, half + 1, 2 * half - 3, 2 * half - 2, 2 * half - 1};
        List<Integer> fitting = new ArrayList<>();
        for (int v : all) {
            if (v < 2 * half && !fitting.contains(v)) {
                fitting.add(v);
            }
        }
        return fitting;
    }

    private static boolean bit(int number, int i) {
        return number / (1 << i) % 2 == 1;
    }

    private static int withSign(int number, int n) {
        return bit(number, n - 1) ? number - (1 << n) : number;
    }

    private static int withoutSign(int number, int n) {
        return Math.floorMod(number, 1 << n);
    }

    /** The acts once more, in the document's words. */
    private static int slow(int kind, int n, int a, int b) {
        int all = 1 << n;
        switch (kind) {
            case 0: return all - 1 - a;
            case 1: return a == 0 ? 0 : all - a;
            case 2: case 3: case 4: return slowBits(kind, n, a, b);
            case 5: return a + b >= all ? a + b - all : a + b;
            case 6: return a >= b ? a - b : a - b + all;
            case 7: return a * b % all;
            case 8: return b == 0 ? all - 1 : (a - a % b) / b;
            case 9: return b == 0 ? a : a - b * slow(8, n, a, b);
            case 10: return withoutSign(slowQuotient(withSign(a, n), withSign(b, n)), n);
            case 11: return b == 0 ? a : withoutSign(withSign(a, n) - withSign(b, n) * slowQuotient(withSign(a, n), withSign(b, n)), n);
            case 12: case 13: case 14: case 19: return slowMoves(kind, n, a, b);
            case 15: return a == b ? 1 : 0;
            case 16: return a < b ? 1 : 0;
            case 17: return withSign(a, n) < withSign(b, n) ? 1 : 0;
            default: return a * all + b;
        }
    }

    private static int slowBits(int kind, int n, int a, int b) {
        int result = 0;
        for (int i = 0; i < n; i++) {
            int ones = (bit(a, i) ? 1 : 0) + (bit(b, i) ? 1 : 0);
            boolean one = kind == 2 ? ones == 2 : kind == 3 ? ones >= 1 : ones == 1;
            result += one ? 1 << i : 0;
        }
        return result;
    }

    private static int slowQuotient(int a, int b) {
        if (b == 0) {
            return a < 0 ? 1 : -1;
        }
        int many = 0;
        for (int left = Math.abs(a); left >= Math.abs(b); left -= Math.abs(b)) {
            many++;
        }
        return (a < 0) == (b < 0) ? many : -many;
    }

    private static int slowMoves(int kind, int n, int a, int places) {
        int half = 1 << (n - 1);
        int moved = a;
        for (int i = 0; i < places; i++) {
            boolean highest = moved >= half;
            if (kind == 12 || kind == 19) {
                moved = (highest ? moved - half : moved) * 2 + (kind == 19 && highest ? 1 : 0);
            } else {
                moved = moved / 2 + (kind == 14 && highest ? half : 0);
            }
        }
        return moved;
    }
}
