import java.util.Arrays;

/**
 * Formulas over words of bits.
 *
 * An assignment is one number: all variables' bits in a row, the first variable's highest bit on top, so
 * that the order of the document is the order of these numbers. Each term keeps a row with its number for
 * each of them. With 12 bits at most, no row is longer than 4096: all are made so long with the object and
 * used again, so that no call makes anything.
 */
public final class BitSolver {
    public static final int NONE = -1, BAD = -2, FULL = -3;

    private static final int MOST_TERMS = 24;
    private static final int MOST_BITS = 12;
    private static final int MOST_CLAIMS = 16;
    private static final int MOST_ASSUMED = 8;
    private static final int MOST_LEVELS = 8;
    /** So many assignments can there be, and so many numbers of one term. */
    private static final int MOST_NUMBERS = 1 << MOST_BITS;

    /** The first termsMade are in use; the others wait for calls that make terms. */
    private final Term[] terms = new Term[MOST_TERMS];
    private int termsMade = 0;
    private int freeBits = 0;
    private final Row claims = new Row(MOST_CLAIMS);
    private final Row assumed = new Row(MOST_ASSUMED);
    /** How many claims there were when each open level was opened. */
    private final Row levels = new Row(MOST_LEVELS);
    /** The assignments by which all claims are 1, in order; good unless stale. */
    private final Row claimed = new Row(MOST_NUMBERS);
    /** The models, in order; good unless stale. */
    private final Row met = new Row(MOST_NUMBERS);
    private boolean stale = true;
    private final Row marks = new Row(MOST_NUMBERS);
    private final Diagram diagram = new Diagram();

    public BitSolver() {
        for (int i = 0; i < terms.length; i++) {
            terms[i] = new Term();
        }
    }

    public int clear() {
        int were = termsMade;
        termsMade = 0;
        freeBits = 0;
        claims.shorten(0);
        assumed.shorten(0);
        levels.shorten(0);
        stale = true;
        return were;
    }

    public int word(int bits) {
        if (!isWidth(bits)) {
            return BAD;
        }
        if (freeBits + bits > MOST_BITS) {
            return FULL;
        }
        Term made = nextTerm(bits, freeBits + bits);
        if (made == null) {
            return FULL;
        }
        freeBits += bits;
        made.variable = true;
        for (int x = 0; x < 1 << freeBits; x++) {
            made.row.add(x & lowest(bits));
        }
        stale = true;
        return termsMade - 1;
    }

    public int constant(int bits, int v) {
        if (!isWidth(bits) || !fits(v, bits)) {
            return BAD;
        }
        Term made = nextTerm(bits, 0);
        if (made == null) {
            return FULL;
        }
        made.row.add(v);
        return termsMade - 1;
    }

    public int act(int kind, int a, int b) {
        Term left = termOf(a);
        // Acts without a b take a twice, so that what the caller gave for b is never looked at.
        Term right = Acts.hasOne(kind) ? left : termOf(b);
        if (left == null || right == null) {
            return BAD;
        }
        int width = Acts.widthOf(kind, left.width, right.width);
        if (!isWidth(width)) {
            return BAD;
        }
        int reach = Math.max(left.reach, right.reach);
        Term made = nextTerm(width, reach);
        if (made == null) {
            return FULL;
        }
        for (int x = 0; x < 1 << reach; x++) {
            made.row.add(Acts.answer(kind, left.width, left.by(x, reach), right.by(x, reach), right.width));
        }
        return termsMade - 1;
    }

    public int choose(int c, int a, int b) {
        Term which = termOf(c);
        Term first = termOf(a);
        Term second = termOf(b);
        if (which == null || first == null || second == null) {
            return BAD;
        }
        if (which.width != 1 || first.width != second.width) {
            return BAD;
        }
        int reach = Math.max(which.reach, Math.max(first.reach, second.reach));
        Term made = nextTerm(first.width, reach);
        if (made == null) {
            return FULL;
        }
        for (int x = 0; x < 1 << reach; x++) {
            made.row.add(which.by(x, reach) == 1 ? first.by(x, reach) : second.by(x, reach));
        }
        return termsMade - 1;
    }

    public int cut(int a, int from, int many) {
        Term whole = termOf(a);
        if (whole == null || !isWidth(many) || from < 0 || from > whole.width - many) {
            return BAD;
        }
        Term made = nextTerm(many, whole.reach);
        if (made == null) {
            return FULL;
        }
        for (int x = 0; x < 1 << whole.reach; x++) {
            made.row.add((whole.row.at(x) >> from) & lowest(many));
        }
        return termsMade - 1;
    }

    public int widen(int a, int bits, boolean sign) {
        Term narrow = termOf(a);
        if (narrow == null || !isWidth(bits) || bits < narrow.width) {
            return BAD;
        }
        Term made = nextTerm(bits, narrow.reach);
        if (made == null) {
            return FULL;
        }
        for (int x = 0; x < 1 << narrow.reach; x++) {
            int number = narrow.row.at(x);
            made.row.add(sign ? Acts.signed(number, narrow.width) & lowest(bits) : number);
        }
        return termsMade - 1;
    }

    public int bits(int a) {
        Term term = termOf(a);
        return term == null ? BAD : term.width;
    }

    public int claim(int a) {
        if (!isOneBit(a)) {
            return BAD;
        }
        if (claims.used >= MOST_CLAIMS) {
            return FULL;
        }
        claims.add(a);
        if (!stale) {
            sift(claimed, a);
            sift(met, a);
        }
        return claims.used;
    }

    public int assume(int a) {
        if (!isOneBit(a)) {
            return BAD;
        }
        if (assumed.used >= MOST_ASSUMED) {
            return FULL;
        }
        assumed.add(a);
        if (!stale) {
            sift(met, a);
        }
        return assumed.used;
    }

    public int release() {
        int were = assumed.used;
        assumed.shorten(0);
        if (!stale) {
            met.take(claimed);
        }
        return were;
    }

    public int push() {
        if (levels.used >= MOST_LEVELS) {
            return FULL;
        }
        levels.add(claims.used);
        return levels.used;
    }

    public int pop() {
        if (levels.used == 0) {
            return BAD;
        }
        int stay = levels.at(levels.used - 1);
        int gone = claims.used - stay;
        levels.shorten(levels.used - 1);
        claims.shorten(stay);
        if (gone > 0) {
            stale = true;
        }
        return gone;
    }

    public int models() {
        return found().used;
    }

    public int value(int a, int k) {
        Term term = termOf(a);
        if (term == null) {
            return BAD;
        }
        Row all = found();
        if (k < 0 || k >= all.used) {
            return NONE;
        }
        return term.by(all.at(k), freeBits);
    }

    public int where(int a, int v) {
        Term term = termOf(a);
        if (term == null || !fits(v, term.width)) {
            return BAD;
        }
        Row all = found();
        for (int k = 0; k < all.used; k++) {
            if (term.by(all.at(k), freeBits) == v) {
                return k;
            }
        }
        return NONE;
    }

    public int bound(int a, boolean greatest) {
        Term term = termOf(a);
        if (term == null) {
            return BAD;
        }
        Row all = found();
        if (all.used == 0) {
            return NONE;
        }
        int best = term.by(all.at(0), freeBits);
        for (int k = 1; k < all.used; k++) {
            int number = term.by(all.at(k), freeBits);
            best = greatest ? Math.max(best, number) : Math.min(best, number);
        }
        return best;
    }

    public int values(int a) {
        Term term = termOf(a);
        if (term == null) {
            return BAD;
        }
        Row all = found();
        marks.zeros(1 << term.width);
        int different = 0;
        for (int k = 0; k < all.used; k++) {
            int number = term.by(all.at(k), freeBits);
            if (marks.at(number) == 0) {
                marks.put(number, 1);
                different++;
            }
        }
        return different;
    }

    public int certain(int a) {
        Term term = termOf(a);
        if (term == null) {
            return BAD;
        }
        Row all = found();
        if (all.used == 0) {
            return NONE;
        }
        int first = term.by(all.at(0), freeBits);
        int changing = 0;
        for (int k = 1; k < all.used; k++) {
            changing |= first ^ term.by(all.at(k), freeBits);
        }
        return ~changing & lowest(term.width);
    }

    public int same(int a, int b) {
        Term left = termOf(a);
        Term right = termOf(b);
        if (left == null || right == null || left.width != right.width) {
            return BAD;
        }
        Row all = found();
        for (int k = 0; k < all.used; k++) {
            int x = all.at(k);
            if (left.by(x, freeBits) != right.by(x, freeBits)) {
                return 0;
            }
        }
        return 1;
    }

    public int cores() {
        if (found().used > 0) {
            return NONE;
        }
        return Integer.bitCount(coreSet());
    }

    public int core(int k) {
        if (k < 0 || found().used > 0) {
            return NONE;
        }
        int set = coreSet();
        int before = 0;
        for (int i = 0; i < assumed.used; i++) {
            if (((set >> i) & 1) == 1) {
                if (before == k) {
                    return assumed.at(i);
                }
                before++;
            }
        }
        return NONE;
    }

    public int size(int a, int i) {
        Term term = termOf(a);
        if (term == null || i < 0 || i >= term.width) {
            return BAD;
        }
        // Bits behind the term's reach change nothing, so no part of it begins there.
        diagram.begin(term.reach);
        for (int x = 0; x < 1 << term.reach; x++) {
            diagram.parts.put(x, (term.row.at(x) >> i) & 1);
        }
        return diagram.fold(term.reach);
    }

    public int great() {
        Row all = found();
        diagram.begin(freeBits);
        for (int k = 0; k < all.used; k++) {
            diagram.parts.put(all.at(k), 1);
        }
        return diagram.fold(freeBits);
    }

    public int without(int a, boolean any) {
        Term term = termOf(a);
        if (term == null || !term.variable) {
            return BAD;
        }
        Row all = found();
        int below = freeBits - term.reach;
        int others = 1 << (freeBits - term.width);
        marks.zeros(others);
        for (int k = 0; k < all.used; k++) {
            int x = all.at(k);
            int rest = ((x >> (below + term.width)) << below) | (x & lowest(below));
            marks.put(rest, marks.at(rest) + 1);
        }
        int needed = any ? 1 << term.width : 1;
        int completed = 0;
        for (int rest = 0; rest < others; rest++) {
            if (marks.at(rest) >= needed) {
                completed++;
            }
        }
        return completed;
    }

    public int count(int what) {
        switch (what) {
            case 0: return termsMade;
            case 1: return freeBits;
            case 2: return claims.used;
            case 3: return assumed.used;
            case 4: return levels.used;
            default: return BAD;
        }
    }

    private static boolean isWidth(int many) {
        return many >= 1 && many <= MOST_BITS;
    }

    private static boolean fits(int number, int width) {
        return number >= 0 && number <= lowest(width);
    }

    /** A number with so many bits 1, the lowest ones. */
    private static int lowest(int many) {
        return (1 << many) - 1;
    }

    private boolean isOneBit(int a) {
        Term term = termOf(a);
        return term != null && term.width == 1;
    }

    /** The term of that number, or null. */
    private Term termOf(int a) {
        return a >= 0 && a < termsMade && a < terms.length ? terms[a] : null;
    }

    /** The next term, its row still to be filled; null if there are as many as there may be. */
    private Term nextTerm(int width, int reach) {
        if (termsMade >= terms.length) {
            return null;
        }
        Term made = terms[termsMade];
        if (made == null) {
            return null;
        }
        termsMade++;
        made.width = width;
        made.reach = reach;
        made.variable = false;
        made.row.shorten(0);
        return made;
    }

    /** The models, in order. */
    private Row found() {
        if (stale) {
            claimed.shorten(0);
            for (int x = 0; x < 1 << freeBits; x++) {
                claimed.add(x);
            }
            for (int i = 0; i < claims.used; i++) {
                sift(claimed, claims.at(i));
            }
            met.take(claimed);
            for (int i = 0; i < assumed.used; i++) {
                sift(met, assumed.at(i));
            }
            stale = false;
        }
        return met;
    }

    /** Leaves the assignments in the row by which the term is 1. */
    private void sift(Row row, int a) {
        Term term = termOf(a);
        if (term == null) {
            return;
        }
        int kept = 0;
        for (int k = 0; k < row.used; k++) {
            int x = row.at(k);
            if (term.by(x, freeBits) == 1) {
                row.put(kept, x);
                kept++;
            }
        }
        row.shorten(kept);
    }

    /** The places of what is assumed that are in the core, as bits; there must be no models. */
    private int coreSet() {
        markFailings();
        int set = lowest(assumed.used);
        for (int i = 0; i < assumed.used; i++) {
            int smaller = set & ~(1 << i);
            if (refutes(smaller)) {
                set = smaller;
            }
        }
        return set;
    }

    /** Marks each set of what is assumed that is just what some assignment of the claims fails. */
    private void markFailings() {
        marks.zeros(1 << assumed.used);
        for (int k = 0; k < claimed.used; k++) {
            marks.put(failing(claimed.at(k)), 1);
        }
    }

    private int failing(int x) {
        int set = 0;
        for (int i = 0; i < assumed.used; i++) {
            Term term = termOf(assumed.at(i));
            if (term != null && term.by(x, freeBits) == 0) {
                set |= 1 << i;
            }
        }
        return set;
    }

    /** Whether every assignment of the claims fails something of the set. */
    private boolean refutes(int set) {
        for (int failed = 0; failed < marks.used; failed++) {
            if (marks.at(failed) == 1 && (failed & set) == 0) {
                return false;
            }
        }
        return true;
    }

    /** Numbers in a row that looks at each index; it is made as long as it may ever become. */
    private static final class Row {
        private final int[] cells;
        private int used = 0;

        private Row(int most) {
            cells = new int[Math.max(0, most)];
        }

        private int at(int place) {
            return place >= 0 && place < used ? cells[place] : 0;
        }

        private void put(int place, int number) {
            if (place >= 0 && place < used) {
                cells[place] = number;
            }
        }

        private void add(int number) {
            if (used < cells.length) {
                cells[used] = number;
                used++;
            }
        }

        private void shorten(int many) {
            if (many >= 0 && many < used) {
                used = many;
            }
        }

        private void zeros(int many) {
            used = Math.max(0, Math.min(many, cells.length));
            Arrays.fill(cells, 0, used, 0);
        }

        private void take(Row other) {
            used = Math.min(other.used, cells.length);
            System.arraycopy(other.cells, 0, cells, 0, used);
        }
    }

    /** A term: its number for each value of those bits of an assignment that it reaches. */
    private static final class Term {
        private int width = 1;
        /** How many of an assignment's bits, from the first one on, can matter to it. */
        private int reach = 0;
        private boolean variable = false;
        private final Row row = new Row(MOST_NUMBERS);

        /** Its number by an assignment of so many bits. */
        private int by(int assignment, int many) {
            return row.at(assignment >> (many - reach));
        }
    }

    /** The acts, on numbers. */
    private static final class Acts {
        private static final int NOT = 0, NEGATED = 1, AND = 2, OR = 3, XOR = 4;
        private static final int SUM = 5, DIFFERENCE = 6, PRODUCT = 7;
        private static final int QUOTIENT = 8, LEFT_OVER = 9, SIGNED_QUOTIENT = 10, SIGNED_LEFT_OVER = 11;
        private static final int UP = 12, DOWN = 13, SIGNED_DOWN = 14;
        private static final int EQUAL = 15, LESS = 16, SIGNED_LESS = 17, ABOVE = 18, AROUND = 19;

        private static boolean hasOne(int kind) {
            return kind == NOT || kind == NEGATED;
        }

        /** How many bits the result has, or BAD. */
        private static int widthOf(int kind, int left, int right) {
            if (kind < NOT || kind > AROUND) {
                return BAD;
            }
            if (kind == ABOVE) {
                return left + right;
            }
            if (left != right) {
                return BAD;
            }
            return kind >= EQUAL && kind <= SIGNED_LESS ? 1 : left;
        }

        /** a has n bits, and b has bBits. */
        private static int answer(int kind, int n, int a, int b, int bBits) {
            int all = lowest(n);
            switch (kind) {
                case NOT: return ~a & all;
                case NEGATED: return -a & all;
                case AND: return a & b;
                case OR: return a | b;
                case XOR: return a ^ b;
                case SUM: return (a + b) & all;
                case DIFFERENCE: return (a - b) & all;
                case PRODUCT: return (a * b) & all;
                case QUOTIENT: return b == 0 ? all : a / b;
                case LEFT_OVER: return b == 0 ? a : a % b;
                case SIGNED_QUOTIENT: return signedQuotient(signed(a, n), signed(b, n)) & all;
                case SIGNED_LEFT_OVER: return signedLeftOver(signed(a, n), signed(b, n)) & all;
                case UP: return b >= n ? 0 : (a << b) & all;
                case DOWN: return b >= n ? 0 : a >> b;
                case SIGNED_DOWN: return (signed(a, n) >> Math.min(b, n)) & all;
                case EQUAL: return a == b ? 1 : 0;
                case LESS: return a < b ? 1 : 0;
                case SIGNED_LESS: return signed(a, n) < signed(b, n) ? 1 : 0;
                case ABOVE: return (a << bBits) | b;
                case AROUND: return around(a, b, n);
                default: return 0;
            }
        }

        /** The number with a sign that n bits are. */
        private static int signed(int number, int n) {
            return (number << (32 - n)) >> (32 - n);
        }

        private static int signedQuotient(int a, int b) {
            if (b == 0) {
                return a < 0 ? 1 : -1;
            }
            return a / b;
        }

        private static int signedLeftOver(int a, int b) {
            return b == 0 ? a : a % b;
        }

        private static int around(int a, int b, int n) {
            if (n < 1) {
                return a;
            }
            int up = b % n;
            return ((a << up) | (a >> (n - up))) & lowest(n);
        }
    }

    /** Finds how many different parts a function has, from its last bit back to its first. */
    private static final class Diagram {
        /** More than twice the 765 parts that a function of 12 bits can have. */
        private static final int SLOTS = 2048;
        private static final int SLOT_BITS = 11;
        private static final int SPREAD = 0x9E3779B1;
        private static final int NAME_BITS = 10;

        /** The name of the part of each beginning of the assignments: 0 and 1 name what is so everywhere. */
        private final Row parts = new Row(MOST_NUMBERS);
        private final Row keys = new Row(SLOTS);
        private final Row names = new Row(SLOTS);
        private int named = 2;

        /** A function of so many bits that is 0 everywhere; the caller puts in where it is 1. */
        private void begin(int many) {
            parts.zeros(1 << many);
            keys.zeros(SLOTS);
            names.zeros(SLOTS);
            named = 2;
        }

        private int fold(int many) {
            for (int level = many - 1; level >= 0; level--) {
                for (int start = 0; start < 1 << level; start++) {
                    parts.put(start, nameOf(level, parts.at(2 * start), parts.at(2 * start + 1)));
                }
            }
            return named - 2;
        }

        /** Names the part that is low if the bit of that level is 0, else high. */
        private int nameOf(int level, int low, int high) {
            if (low == high) {
                return low;
            }
            // Never 0, as low and high differ: a key of 0 marks a free slot.
            int key = (((level << NAME_BITS) | low) << NAME_BITS) | high;
            int slot = (key * SPREAD) >>> (32 - SLOT_BITS);
            for (int tries = 0; tries < SLOTS; tries++) {
                if (keys.at(slot) == key) {
                    return names.at(slot);
                }
                if (keys.at(slot) == 0) {
                    keys.put(slot, key);
                    names.put(slot, named);
                    named++;
                    return named - 1;
                }
                slot = (slot + 1) & (SLOTS - 1);
            }
            return low;
        }
    }
}
