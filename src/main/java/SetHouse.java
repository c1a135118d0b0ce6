import java.util.Arrays;

/**
 * A house for a language of finite sets. The document is ../shared/DOC.md.
 *
 * Values are ints ("handles"): a negative one holds its value itself (om, truths, small wholes, atoms,
 * strings of one byte), another is an address in the heap. Each value has just one such form, so
 * that two handles that hold themselves are equal values only when they are equal ints.
 */
public final class SetHouse {
    public static final int NONE = -1;

    // The kinds, in THE ORDER; a handle that holds its value has its kind in bits 28 to 30.
    private static final int KIND_OM = 0;
    private static final int KIND_TRUTH = 1;
    private static final int KIND_WHOLE = 2;
    private static final int KIND_ATOM = 3;
    private static final int KIND_STRING = 4;
    private static final int KIND_TUPLE = 5;
    private static final int KIND_SET = 6;

    private static final int PAYLOAD = 0x0fffffff;
    private static final int OM = 0x80000000;
    private static final int FALSE = 0x90000000;
    private static final int TRUE = 0x90000001;
    private static final int WHOLE_TAG = 0xa0000000;
    private static final int ATOM_TAG = 0xb0000000;
    private static final int BYTE_TAG = 0xc0000000;
    // No value: a number of the machine's own on its stack, or an error that an operation answers.
    private static final int RAW_TAG = 0xf0000000;
    private static final int ZERO = WHOLE_TAG;
    private static final int ONE = WHOLE_TAG + 1;
    private static final int SMALL_LIMIT = 1 << 27;

    private static final int EMPTY_STRING = 0;
    private static final int EMPTY_TUPLE = 1;
    private static final int EMPTY_SET = 2;
    private static final int EMPTIES = 3;

    private static final int MOST_SIZE = 1000;
    private static final int MOST_HEIGHT = 30;
    private static final int MOST_LIMBS = 32;
    private static final int MOST_WORK = 60000;
    private static final int MOST_TOTAL = 40000;
    private static final int MOST_CALLS = 50;
    private static final int MOST_FUNCS = 20;
    private static final int MOST_DEPTHS = 60;
    private static final int MOST_POINTS = 20;
    private static final int MOST_ATOMS = 1000000;
    private static final int MOST_TAPE = 32768;
    private static final int MOST_OPEN = 20;
    private static final int MOST_VARIABLES = 60;
    private static final int MOST_UNITS = 40;
    private static final int MOST_PARAMS = 8;
    private static final int MOST_STATEMENTS = 400;
    private static final int MOST_VIEWS = 8;
    private static final int MOST_STEPS = 20000;
    private static final int MOST_KEPT = 60000;
    private static final int MOST_COUNTED = 2000000000;
    // What 512 calls can bring onto the tape, all texts together.
    private static final int MOST_FED = 512 * 20;
    // Slots that one exp's iters can need: a name and two more for each of the variables that there may be.
    private static final int MOST_PASSING = 3 * MOST_VARIABLES;

    private static final int ERROR_KIND = RAW_TAG + 1;
    private static final int ERROR_ZERO = RAW_TAG + 2;
    private static final int ERROR_OM = RAW_TAG + 3;
    private static final int ERROR_PLACE = RAW_TAG + 4;
    private static final int ERROR_SIZE = RAW_TAG + 5;
    private static final int ERROR_ROOM = RAW_TAG + 6;

    private static int raw(int n) {
        return RAW_TAG | (n & PAYLOAD);
    }

    private static int unraw(int h) {
        return h & PAYLOAD;
    }

    private static boolean isError(int h) {
        return (h & RAW_TAG) == RAW_TAG;
    }

    private static int truth(boolean b) {
        return b ? TRUE : FALSE;
    }

    /**
     * A row that is long enough, as far as its full length goes. It is made anew once at most, so that all
     * rows that an object ever makes are the first and the full ones.
     */
    private static int[] widened(int[] row, int needed, int full) {
        return needed > row.length && row.length < full ? Arrays.copyOf(row, full) : row;
    }

    private static byte[] widenedBytes(byte[] row, int needed, int full) {
        return needed > row.length && row.length < full ? Arrays.copyOf(row, full) : row;
    }

    // ---------------------------------------------------------------- values

    /**
     * The values that do not fit into a handle. A cell is a header (kind, flag, length, size, height)
     * and then limbs of a whole (lowest first; flag: below 0), packed bytes of a string, or handles
     * of members (flag of a set: it is a map). A cell takes no more ints than its value has size, but each
     * member's cell may stand besides: a value takes less than two ints for each of its size in all, and
     * nearly so many where tuples of one member stand within each other.
     */
    private static final class Heap {
        private static final int FIRST_ROOM = 16384;
        // In use when a statement (a view, an exp) begins: two ints for each of TOTAL, 80000, and 27 values of
        // 2000 ints that are shown or that views have, 54000. It adds three ints for two of WORK at the most
        // (a progression's wholes have cells of their own; pow and maps add less), 91500 with the value that
        // is too much. That is 229500 with RESERVE; what is more is there so that cells need not move too often.
        private static final int FULL_ROOM = 1 << 18;
        // What one instruction may claim before the machine looks at the room again.
        private static final int RESERVE = 4000;
        // Kind, flag and length of a tuple of two.
        private static final int PAIR = KIND_TUPLE | 2 << 4;

        private int[] mem = new int[FIRST_ROOM];
        private int top = EMPTIES;
        // While cells move: a bit for each int in use, and how many of these are before each 32 of them.
        private int[] used = new int[FIRST_ROOM / 32];
        private int[] before = new int[FIRST_ROOM / 32];

        Heap() {
            layEmpties(mem);
        }

        private static void layEmpties(int[] room) {
            room[EMPTY_STRING] = header(KIND_STRING, 0, 0, 1, 0);
            room[EMPTY_TUPLE] = header(KIND_TUPLE, 0, 0, 1, 1);
            room[EMPTY_SET] = header(KIND_SET, 1, 0, 1, 1);
        }

        static int header(int kind, int flag, int length, int size, int height) {
            return kind | flag << 3 | length << 4 | size << 16 | height << 26;
        }

        private static int wordsBehind(int header) {
            int length = (header >>> 4) & 4095;
            return (header & 7) == KIND_STRING ? (length + 3) >> 2 : length;
        }

        int kind(int h) {
            return h < 0 ? (h >>> 28) & 7 : mem[h] & 7;
        }

        int size(int h) {
            if (h >= 0) {
                return (mem[h] >>> 16) & 1023;
            }
            int tag = h & RAW_TAG;
            return tag == BYTE_TAG || (tag == WHOLE_TAG && h != ZERO) ? 2 : 1;
        }

        /** Members of a tuple or set, bytes of a string, limbs of a whole in the heap. */
        int length(int h) {
            if (h < 0) {
                return (h & RAW_TAG) == BYTE_TAG ? 1 : 0;
            }
            return (mem[h] >>> 4) & 4095;
        }

        boolean flagged(int h) {
            return h >= 0 && (mem[h] & 8) != 0;
        }

        boolean isMap(int h) {
            return kind(h) == KIND_SET && flagged(h);
        }

        int member(int h, int i) {
            return h >= 0 && i >= 0 && i < (mem[h] >>> 4 & 4095) ? mem[h + 1 + i] : OM;
        }

        int byteAt(int h, int i) {
            return h < 0 ? h & 255 : (mem[h + 1 + (i >> 2)] >>> ((i & 3) << 3)) & 255;
        }

        /** What goes over a value takes: a member, or a byte as a string. */
        int taken(int h, int i) {
            return kind(h) == KIND_STRING ? BYTE_TAG | byteAt(h, i) : member(h, i);
        }

        int copyBytes(int h, int from, int n, byte[] to, int at) {
            for (int i = 0; i < n && at + i < to.length; i++) {
                int k = from + i;
                to[at + i] = (byte) (h < 0 ? h : mem[h + 1 + (k >> 2)] >>> ((k & 3) << 3));
            }
            return at + n;
        }

        int makeString(byte[] from, int start, int n) {
            if (n <= 1) {
                return n <= 0 ? EMPTY_STRING : BYTE_TAG | (from[start] & 255);
            }
            int words = (n + 3) >> 2;
            if (words >= MOST_SIZE) {
                return ERROR_SIZE;
            }
            int at = top;
            if (1 + words > mem.length - at) {
                return ERROR_ROOM;
            }
            top = at + 1 + words;
            mem[at] = header(KIND_STRING, 0, n, 1 + words, 0);
            int word = 0;
            for (int i = 0; i < n; i++) {
                int place = (i & 3) << 3;
                word = word | (from[start + i] & 255) << place;
                if (place == 24 || i == n - 1) {
                    mem[at + 1 + (i >> 2)] = word;
                    word = 0;
                }
            }
            return at;
        }

        /** A whole of n limbs, the highest not 0, that does not fit into a handle. */
        int makeWhole(int[] limbs, int n, boolean below) {
            if (n > MOST_LIMBS) {
                return ERROR_SIZE;
            }
            int at = top;
            if (1 + n > mem.length - at) {
                return ERROR_ROOM;
            }
            top = at + 1 + n;
            mem[at] = KIND_WHOLE | (below ? 8 : 0) | n << 4 | (1 + n) << 16;
            System.arraycopy(limbs, 0, mem, at + 1, n);
            return at;
        }

        /** A tuple of n values; om at the end is not there. */
        int makeTuple(int[] from, int start, int n) {
            int left = n;
            for (int i = n; i > 0 && from[start + i - 1] == OM; i--) {
                left = i - 1;
            }
            return makeRow(KIND_TUPLE, from, start, left);
        }

        /** A tuple that does not end with om, or a set of members that stand in order, each once. */
        int makeRow(int kind, int[] from, int start, int n) {
            if (n <= 0) {
                return kind == KIND_SET ? EMPTY_SET : EMPTY_TUPLE;
            }
            int size = 1;
            int height = 0;
            boolean map = kind == KIND_SET;
            for (int i = start; i < start + n && size <= MOST_SIZE; i++) {
                int m = from[i];
                if (m >= 0) {
                    int header = mem[m];
                    size = size + (header >>> 16 & 1023);
                    height = height > header >>> 26 ? height : header >>> 26;
                    map = map && (header & 0xffff) == PAIR;
                } else {
                    int tag = m & RAW_TAG;
                    size = size + (tag == BYTE_TAG || (tag == WHOLE_TAG && m != ZERO) ? 2 : 1);
                    map = false;
                }
            }
            if (size > MOST_SIZE || height >= MOST_HEIGHT) {
                return ERROR_SIZE;
            }
            int at = top;
            if (1 + n > mem.length - at) {
                return ERROR_ROOM;
            }
            top = at + 1 + n;
            mem[at] = kind | (map ? 8 : 0) | n << 4 | size << 16 | (height + 1) << 26;
            System.arraycopy(from, start, mem, at + 1, n);
            return at;
        }

        /** A literal's cell, as it stands in the code. */
        int makeCopy(int[] from, int start, int words) {
            int at = top;
            if (words > mem.length - at) {
                return ERROR_ROOM;
            }
            top = at + words;
            System.arraycopy(from, start, mem, at, words);
            return at;
        }

        boolean same(int a, int b) {
            return a == b || (a >= 0 && b >= 0 && mem[a] == mem[b] && compare(a, b) == 0);
        }

        /** THE ORDER; it goes as deep as values are high. */
        int compare(int a, int b) {
            if (a == b) {
                return 0;
            }
            int k = a < 0 ? a >>> 28 & 7 : mem[a] & 7;
            int m = b < 0 ? b >>> 28 & 7 : mem[b] & 7;
            if (k != m) {
                return k < m ? -1 : 1;
            }
            if (a < 0 && b < 0) {
                return a << 4 < b << 4 ? -1 : 1;
            }
            if (k < KIND_TUPLE) {
                return k == KIND_WHOLE ? compareWholes(a, b) : compareStrings(a, b);
            }
            int n = mem[a] >>> 4 & 4095;
            int l = mem[b] >>> 4 & 4095;
            for (int i = 1; i <= n && i <= l; i++) {
                int c = mem[a + i] == mem[b + i] ? 0 : compare(mem[a + i], mem[b + i]);
                if (c != 0) {
                    return c;
                }
            }
            return n == l ? 0 : n < l ? -1 : 1;
        }

        private int compareStrings(int a, int b) {
            int n = a < 0 ? 1 : mem[a] >>> 4 & 4095;
            int l = b < 0 ? 1 : mem[b] >>> 4 & 4095;
            for (int i = 0; i < n && i < l; i++) {
                int x = a < 0 ? a & 255 : mem[a + 1 + (i >> 2)] >>> ((i & 3) << 3) & 255;
                int y = b < 0 ? b & 255 : mem[b + 1 + (i >> 2)] >>> ((i & 3) << 3) & 255;
                if (x != y) {
                    return x < y ? -1 : 1;
                }
            }
            return n == l ? 0 : n < l ? -1 : 1;
        }

        private int compareWholes(int a, int b) {
            boolean belowA = a >= 0 && (mem[a] & 8) != 0;
            boolean belowB = b >= 0 && (mem[b] & 8) != 0;
            // A whole in the heap is farther from 0 than any that fits into a handle.
            if (a < 0) {
                return belowB ? 1 : -1;
            }
            if (b < 0 || belowA != belowB) {
                return belowA ? -1 : 1;
            }
            int n = mem[a] >>> 4 & 4095;
            int l = mem[b] >>> 4 & 4095;
            int c = n == l ? 0 : n < l ? -1 : 1;
            for (int i = n; i > 0 && c == 0; i--) {
                int x = mem[a + i] ^ 0x80000000;
                int y = mem[b + i] ^ 0x80000000;
                c = x == y ? 0 : x < y ? -1 : 1;
            }
            return belowA ? -c : c;
        }

        // ------------------------------------------------ what is in use moves down

        boolean isTight() {
            return mem.length - top < RESERVE;
        }

        /** So little is left that room would have to be made again and again. */
        boolean isScarce() {
            return mem.length - top < mem.length / 8;
        }

        /** More than half of the first room is in use: it is time for the full one. */
        void widen() {
            if (top > mem.length / 2) {
                mem = widened(mem, FULL_ROOM, FULL_ROOM);
                used = widened(used, FULL_ROOM / 32, FULL_ROOM / 32);
                before = widened(before, FULL_ROOM / 32, FULL_ROOM / 32);
            }
        }

        void beginMarking() {
            Arrays.fill(used, 0);
            used[0] = (1 << EMPTIES) - 1;
        }

        void markRow(int[] row, int n) {
            for (int i = 0; i < n; i++) {
                if (row[i] >= EMPTIES) {
                    markCell(row[i]);
                }
            }
        }

        /** It goes as deep as values are high. */
        private void markCell(int h) {
            if ((used[h >> 5] >>> (h & 31) & 1) != 0) {
                return;
            }
            int kind = mem[h] & 7;
            int length = mem[h] >>> 4 & 4095;
            int last = h + (kind == KIND_STRING ? (length + 3) >> 2 : length);
            for (int i = h; i <= last; i++) {
                used[i >> 5] |= 1 << (i & 31);
            }
            for (int i = h + 1; i <= last && kind >= KIND_TUPLE; i++) {
                if (mem[i] >= EMPTIES) {
                    markCell(mem[i]);
                }
            }
        }

        void endMarking() {
            int count = 0;
            for (int i = 0; i < used.length; i++) {
                before[i] = count;
                count = count + Integer.bitCount(used[i]);
            }
        }

        private int placeOf(int h) {
            return before[h >> 5] + Integer.bitCount(used[h >> 5] & ((1 << (h & 31)) - 1));
        }

        /** What is marked will be at other places. */
        void moveRow(int[] row, int n) {
            for (int i = 0; i < n; i++) {
                if (row[i] >= EMPTIES) {
                    row[i] = placeOf(row[i]);
                }
            }
        }

        void moveCells() {
            int to = EMPTIES;
            int words = 0;
            for (int at = EMPTIES; at < top; at = at + words) {
                int header = mem[at];
                words = 1 + wordsBehind(header);
                if ((used[at >> 5] >>> (at & 31) & 1) != 0) {
                    for (int i = at + 1; i < at + words && (header & 7) >= KIND_TUPLE; i++) {
                        mem[i] = mem[i] >= EMPTIES ? placeOf(mem[i]) : mem[i];
                    }
                    System.arraycopy(mem, at, mem, to, words);
                    to = to + words;
                }
            }
            top = to;
        }
    }

    /** Wholes: the small ones by the machine's own numbers, the others by limbs of 32 bits without sign. */
    private static final class Wholes {
        private static final long LIMB = 0xffffffffL;
        private static final int DIGIT = 0xffff;
        private static final int BILLION = 1000000000;
        // Of a whole as printed, with its sign; a few more than there can be.
        private static final int MOST_DIGITS = 320;

        private final Heap heap;
        private final int[] left = new int[72];
        private final int[] right = new int[72];
        private final int[] result = new int[72];
        private int resultLimbs;
        // Long division goes by digits of 16 bits, so that no product needs more than a long.
        private final int[] dividend = new int[72];
        private final int[] divisor = new int[72];
        private final int[] quotient = new int[72];
        private final int[] chunks = new int[40];

        Wholes(Heap heap) {
            this.heap = heap;
        }

        static int small(int n) {
            return WHOLE_TAG | (n & PAYLOAD);
        }

        /** Of a whole that fits into a handle. */
        static int number(int h) {
            return h << 4 >> 4;
        }

        int of(long n) {
            if (n >= -SMALL_LIMIT && n < SMALL_LIMIT) {
                return small((int) n);
            }
            long size = n < 0 ? -n : n;
            result[0] = (int) size;
            result[1] = (int) (size >>> 32);
            return heap.makeWhole(result, result[1] == 0 ? 1 : 2, n < 0);
        }

        /** The number itself, or one beyond all lengths with its sign. */
        int clamped(int h) {
            if (h < 0) {
                return h << 4 >> 4;
            }
            return (heap.mem[h] & 8) != 0 ? -SMALL_LIMIT : SMALL_LIMIT;
        }

        boolean isBelow(int h) {
            return h < 0 ? h << 4 < 0 : (heap.mem[h] & 8) != 0;
        }

        private int load(int h, int[] limbs) {
            if (h < 0) {
                int n = h << 4 >> 4;
                limbs[0] = n < 0 ? -n : n;
                return n == 0 ? 0 : 1;
            }
            int n = heap.mem[h] >>> 4 & 4095;
            System.arraycopy(heap.mem, h + 1, limbs, 0, n);
            return n;
        }

        /** What stands in result, as a value. */
        private int made(int limbs, boolean below) {
            int n = limbs;
            for (int i = limbs; i > 0 && result[i - 1] == 0; i--) {
                n = i - 1;
            }
            int first = result[0];
            if (n <= 1 && first >= 0 && (first < SMALL_LIMIT || (below && first == SMALL_LIMIT))) {
                return n == 0 ? ZERO : small(below ? -first : first);
            }
            return n == 0 ? ZERO : heap.makeWhole(result, n, below);
        }

        int negated(int h) {
            return made(load(h, result), !isBelow(h));
        }

        int absolute(int h) {
            return isBelow(h) ? negated(h) : h;
        }

        /** a + b, or a - b. */
        int added(int a, int b, boolean minus) {
            if (a < 0 && b < 0) {
                long y = b << 4 >> 4;
                return of((a << 4 >> 4) + (minus ? -y : y));
            }
            int n = load(a, left);
            int m = load(b, right);
            boolean belowA = isBelow(a);
            boolean belowB = isBelow(b) != minus;
            if (belowA == belowB) {
                return made(addLimbs(n, m), belowA);
            }
            int c = compareLimbs(n, m);
            if (c == 0) {
                return ZERO;
            }
            if (c > 0) {
                return made(takeLimbs(left, n, right, m), belowA);
            }
            return made(takeLimbs(right, m, left, n), belowB);
        }

        private int compareLimbs(int n, int m) {
            int c = Integer.compare(n, m);
            for (int i = n - 1; i >= 0 && c == 0; i--) {
                c = Integer.compare(left[i] ^ 0x80000000, right[i] ^ 0x80000000);
            }
            return c;
        }

        private int addLimbs(int n, int m) {
            int most = Math.max(n, m);
            long carry = 0;
            for (int i = 0; i < most; i++) {
                carry = carry + (i < n ? left[i] & LIMB : 0) + (i < m ? right[i] & LIMB : 0);
                result[i] = (int) carry;
                carry = carry >>> 32;
            }
            result[most] = (int) carry;
            return most + 1;
        }

        private int takeLimbs(int[] more, int n, int[] less, int m) {
            long carry = 0;
            for (int i = 0; i < n; i++) {
                carry = carry + (more[i] & LIMB) - (i < m ? less[i] & LIMB : 0);
                result[i] = (int) carry;
                carry = carry >> 32;
            }
            return n;
        }

        int product(int a, int b) {
            if (a < 0 && b < 0) {
                return of((long) (a << 4 >> 4) * (b << 4 >> 4));
            }
            int n = load(a, left);
            int m = load(b, right);
            if (n + m > MOST_LIMBS + 1) {
                return n == 0 || m == 0 ? ZERO : ERROR_SIZE;
            }
            for (int i = 0; i < n + m; i++) {
                result[i] = 0;
            }
            for (int i = 0; i < n; i++) {
                long factor = left[i] & LIMB;
                long carry = 0;
                for (int j = 0; j < m; j++) {
                    carry = carry + factor * (right[j] & LIMB) + (result[i + j] & LIMB);
                    result[i + j] = (int) carry;
                    carry = carry >>> 32;
                }
                result[i + m] = (int) carry;
            }
            return made(n + m, isBelow(a) != isBelow(b));
        }

        int power(int a, int b) {
            if (isBelow(b)) {
                return ERROR_PLACE;
            }
            if (b == ZERO || a == ONE) {
                return ONE;
            }
            if (a == ZERO) {
                return a;
            }
            int most = MOST_LIMBS * 32;
            if (a == small(-1)) {
                int low = b < 0 ? b : heap.mem[b + 1];
                return (low & 1) == 0 ? ONE : a;
            }
            if (clamped(b) > most) {
                return ERROR_SIZE;
            }
            int exponent = number(b);
            int h = ONE;
            for (int bit = 11; bit >= 0 && !isError(h); bit--) {
                h = product(h, h);
                if (!isError(h) && (exponent >> bit & 1) == 1) {
                    h = product(h, a);
                }
            }
            return h;
        }

        /** a div b, or a mod b: the rest is never below 0. */
        int divided(int a, int b, boolean rest) {
            if (b == ZERO) {
                return ERROR_ZERO;
            }
            if (a < 0 && b < 0) {
                return dividedSmall(number(a), number(b), rest);
            }
            int n = load(a, left);
            int m = load(b, right);
            boolean belowA = isBelow(a);
            int digits = divideLimbs(n, m);
            boolean even = digits == 0;
            if (rest) {
                unpackRest(m);
                if (!belowA || even) {
                    return made(m, false);
                }
                System.arraycopy(result, 0, left, 0, m);
                load(b, right);
                return made(takeLimbs(right, m, left, restLimbs(m)), false);
            }
            int limbs = unpackQuotient(n);
            if (belowA && !even) {
                limbs = addOne(limbs);
            }
            return made(limbs, belowA != isBelow(b));
        }

        private int dividedSmall(long a, long b, boolean rest) {
            if (b == 0) {
                return ERROR_ZERO;
            }
            long m = a % b;
            if (m < 0) {
                m = m + (b < 0 ? -b : b);
            }
            return of(rest ? m : (a - m) / b);
        }

        private int restLimbs(int m) {
            int n = m;
            for (int i = m; i > 0 && left[i - 1] == 0; i--) {
                n = i - 1;
            }
            return n;
        }

        private void unpackRest(int m) {
            for (int i = 0; i < m; i++) {
                result[i] = dividend[2 * i] | dividend[2 * i + 1] << 16;
            }
        }

        private int unpackQuotient(int n) {
            for (int i = 0; i < n; i++) {
                result[i] = quotient[2 * i] | quotient[2 * i + 1] << 16;
            }
            return n;
        }

        private int addOne(int limbs) {
            for (int i = 0; i < limbs; i++) {
                result[i]++;
                if (result[i] != 0) {
                    return limbs;
                }
            }
            result[limbs] = 1;
            return limbs + 1;
        }

        /**
         * left by right: the quotient's digits, the rest in dividend; how many digits of the rest are not 0.
         */
        private int divideLimbs(int n, int m) {
            Arrays.fill(quotient, 0);
            Arrays.fill(dividend, 0);
            Arrays.fill(divisor, 0);
            for (int i = 0; i < n; i++) {
                dividend[2 * i] = left[i] & DIGIT;
                dividend[2 * i + 1] = left[i] >>> 16;
            }
            for (int i = 0; i < m; i++) {
                divisor[2 * i] = right[i] & DIGIT;
                divisor[2 * i + 1] = right[i] >>> 16;
            }
            int digits = 2 * m;
            if (digits > 0 && divisor[digits - 1] == 0) {
                digits--;
            }
            int shift = 0;
            for (int i = 0; i < 15 && digits > 0 && (divisor[digits - 1] << shift & 0x8000) == 0; i++) {
                shift++;
            }
            shiftUp(dividend, 2 * n + 1, shift);
            shiftUp(divisor, digits, shift);
            for (int at = 2 * n - digits; at >= 0; at--) {
                quotient[at] = quotientDigit(at, digits);
            }
            shiftDown(dividend, digits, shift);
            int count = 0;
            for (int i = 0; i < 2 * n + 1; i++) {
                count = dividend[i] != 0 ? count + 1 : count;
            }
            return count;
        }

        private static void shiftUp(int[] digits, int n, int shift) {
            int carry = 0;
            for (int i = 0; i < n; i++) {
                int d = digits[i] << shift | carry;
                digits[i] = d & DIGIT;
                carry = d >>> 16;
            }
        }

        private static void shiftDown(int[] digits, int n, int shift) {
            for (int i = 0; i < n; i++) {
                digits[i] = (digits[i] >>> shift | digits[i + 1] << (16 - shift)) & DIGIT;
            }
        }

        private int quotientDigit(int at, int n) {
            long first = n > 0 ? divisor[n - 1] : 0;
            if (first == 0) {
                return 0;
            }
            long second = n > 1 ? divisor[n - 2] : 0;
            long third = n > 1 ? dividend[at + n - 2] : 0;
            long head = (long) dividend[at + n] << 16 | dividend[at + n - 1];
            long q = head / first;
            long r = head - q * first;
            for (int i = 0; i < 4 && r <= DIGIT && (q > DIGIT || q * second > (r << 16 | third)); i++) {
                q--;
                r = r + first;
            }
            long carry = 0;
            for (int i = 0; i < n; i++) {
                carry = carry + dividend[at + i] - q * divisor[i];
                dividend[at + i] = (int) (carry & DIGIT);
                carry = carry >> 16;
            }
            carry = carry + dividend[at + n];
            dividend[at + n] = (int) (carry & DIGIT);
            if (carry < 0) {
                q--;
                addBack(at, n);
            }
            return (int) q;
        }

        private void addBack(int at, int n) {
            int carry = 0;
            for (int i = 0; i < n; i++) {
                carry = carry + dividend[at + i] + divisor[i];
                dividend[at + i] = carry & DIGIT;
                carry = carry >>> 16;
            }
            dividend[at + n] = (dividend[at + n] + carry) & DIGIT;
        }

        // ------------------------------------------------ digits

        /** The limbs of a NUMBER; they stand in result. */
        int readDigits(byte[] from, int start, int end) {
            int n = 0;
            for (int i = start; i < end; i++) {
                long carry = from[i] - '0';
                for (int j = 0; j < n; j++) {
                    carry = carry + (result[j] & LIMB) * 10;
                    result[j] = (int) carry;
                    carry = carry >>> 32;
                }
                if (carry != 0 && n < MOST_LIMBS) {
                    result[n] = (int) carry;
                    n++;
                }
            }
            resultLimbs = n;
            return n;
        }

        int resultLimb(int i) {
            return i >= 0 && i < resultLimbs ? result[i] : 0;
        }

        /** The digits of a whole at a place of a text that has room for them: the place behind. */
        int writeDigits(int h, byte[] to, int start) {
            int at = start;
            if (at < 0 || at > to.length - MOST_DIGITS) {
                return at;
            }
            if (isBelow(h)) {
                to[at] = '-';
                at++;
            }
            int n = load(h, left);
            int count = 0;
            for (int i = 0; i < chunks.length && (n > 0 || i == 0); i++) {
                chunks[count] = takeBillion(n);
                count++;
                n = n > 0 && left[n - 1] == 0 ? n - 1 : n;
            }
            for (int i = count - 1; i >= 0; i--) {
                at = writeChunk(chunks[i], i == count - 1, to, at);
            }
            return at;
        }

        private int takeBillion(int n) {
            long rest = 0;
            for (int i = n - 1; i >= 0; i--) {
                long d = rest << 32 | (left[i] & LIMB);
                left[i] = (int) (d / BILLION);
                rest = d % BILLION;
            }
            return (int) rest;
        }

        private static int writeChunk(int chunk, boolean first, byte[] to, int start) {
            int digits = 9;
            int unit = 100000000;
            for (int i = 0; first && i < 8 && chunk < unit; i++) {
                unit = unit / 10;
                digits--;
            }
            int left = chunk;
            for (int i = digits - 1; i >= 0; i--) {
                to[start + i] = (byte) ('0' + left % 10);
                left = left / 10;
            }
            return start + digits;
        }
    }

    /** Values as printed. The longest one has 9992 bytes (999 atoms of seven digits in a row), digits want more room. */
    private static final class Printer {
        private static final int MOST_TEXT = 10400;

        private final Heap heap;
        private final Wholes wholes;
        private final byte[] text = new byte[MOST_TEXT];
        private int length;

        Printer(Heap heap, Wholes wholes) {
            this.heap = heap;
            this.wholes = wholes;
        }

        void print(int h) {
            length = 0;
            write(h);
        }

        /** A string itself as its bytes. */
        void printPlain(int h) {
            length = 0;
            if (heap.kind(h) == KIND_STRING) {
                writeBytes(h);
            } else {
                write(h);
            }
        }

        void put(int b) {
            if (length < text.length) {
                text[length] = (byte) b;
                length++;
            }
        }

        private void write(int h) {
            switch (heap.kind(h)) {
                case KIND_TRUTH:
                    writeWord(h == TRUE ? "true" : "false");
                    break;
                case KIND_WHOLE:
                    length = wholes.writeDigits(h, text, length);
                    break;
                case KIND_ATOM:
                    put('#');
                    length = wholes.writeDigits(Wholes.small(h & PAYLOAD), text, length);
                    break;
                case KIND_STRING:
                    put('"');
                    writeBytes(h);
                    put('"');
                    break;
                case KIND_TUPLE:
                    writeRow(h, '[', ']');
                    break;
                case KIND_SET:
                    writeRow(h, '{', '}');
                    break;
                default:
                    writeWord("om");
                    break;
            }
        }

        private void writeRow(int h, int first, int last) {
            put(first);
            int n = heap.length(h);
            for (int i = 0; i < n; i++) {
                if (i > 0) {
                    put(',');
                    put(' ');
                }
                write(heap.member(h, i));
            }
            put(last);
        }

        private void writeBytes(int h) {
            int n = Math.min(heap.length(h), text.length - length);
            length = heap.copyBytes(h, 0, n, text, length);
        }

        private void writeWord(String word) {
            for (int i = 0; i < word.length(); i++) {
                put(word.charAt(i));
            }
        }

        int madeString() {
            return heap.makeString(text, 0, length);
        }

        int word(String word) {
            length = 0;
            writeWord(word);
            return madeString();
        }
    }

    /** What operators, words and parts give. Answers are values, or errors as ERROR_KIND and its like. */
    private static final class Algebra {
        private final Heap heap;
        private final Wholes wholes;
        private final Printer printer;
        private final byte[] bytes = new byte[8192];
        // Members on their way into a new value: never more than those of two values and a few.
        private final int[] row = new int[2048];
        private final int[] few = new int[8];

        Algebra(Heap heap, Wholes wholes, Printer printer) {
            this.heap = heap;
            this.wholes = wholes;
            this.printer = printer;
        }

        // ------------------------------------------------ operators

        int binary(int op, int a, int b) {
            switch (op) {
                case Op.ADD:
                    return sum(a, b);
                case Op.SUB:
                    return difference(a, b);
                case Op.MUL:
                    return product(a, b);
                case Op.DIV:
                case Op.MOD:
                    return areWholes(a, b) ? wholes.divided(a, b, op == Op.MOD) : ERROR_KIND;
                case Op.POWER:
                    return areWholes(a, b) ? wholes.power(a, b) : ERROR_KIND;
                case Op.EQ:
                    return truth(heap.same(a, b));
                case Op.NE:
                    return truth(!heap.same(a, b));
                case Op.IN:
                    return contains(b, a);
                case Op.NOTIN:
                    int in = contains(b, a);
                    return isError(in) ? in : truth(in == FALSE);
                case Op.SUBSET:
                    return areSets(a, b) ? truth(isSubset(a, b)) : ERROR_KIND;
                default:
                    return compared(op, a, b);
            }
        }

        private boolean areWholes(int a, int b) {
            return heap.kind(a) == KIND_WHOLE && heap.kind(b) == KIND_WHOLE;
        }

        private boolean areSets(int a, int b) {
            return heap.kind(a) == KIND_SET && heap.kind(b) == KIND_SET;
        }

        private int compared(int op, int a, int b) {
            int k = heap.kind(a);
            if (k != heap.kind(b) || (k != KIND_WHOLE && k != KIND_STRING)) {
                return ERROR_KIND;
            }
            int c = heap.compare(a, b);
            switch (op) {
                case Op.LT:
                    return truth(c < 0);
                case Op.LE:
                    return truth(c <= 0);
                case Op.GT:
                    return truth(c > 0);
                default:
                    return truth(c >= 0);
            }
        }

        int sum(int a, int b) {
            int k = heap.kind(a);
            if (k != heap.kind(b)) {
                return ERROR_KIND;
            }
            switch (k) {
                case KIND_WHOLE:
                    return wholes.added(a, b, false);
                case KIND_STRING:
                    return joined(a, b);
                case KIND_TUPLE:
                    int n = load(a, 0, heap.length(a), 0);
                    n = load(b, 0, heap.length(b), n);
                    return heap.makeTuple(row, 0, n);
                case KIND_SET:
                    return heap.length(a) < heap.length(b) ? union(b, a) : union(a, b);
                default:
                    return ERROR_KIND;
            }
        }

        private int joined(int a, int b) {
            int n = heap.copyBytes(a, 0, heap.length(a), bytes, 0);
            n = heap.copyBytes(b, 0, heap.length(b), bytes, n);
            return heap.makeString(bytes, 0, n);
        }

        private int difference(int a, int b) {
            if (areWholes(a, b)) {
                return wholes.added(a, b, true);
            }
            if (!areSets(a, b)) {
                return ERROR_KIND;
            }
            return heap.length(b) > heap.length(a) ? chosen(a, b, false) : without(a, b);
        }

        int product(int a, int b) {
            if (areWholes(a, b)) {
                return wholes.product(a, b);
            }
            if (areSets(a, b)) {
                return heap.length(a) < heap.length(b) ? chosen(a, b, true) : chosen(b, a, true);
            }
            int k = heap.kind(a);
            if (heap.kind(b) != KIND_WHOLE || (k != KIND_STRING && k != KIND_TUPLE)) {
                return ERROR_KIND;
            }
            return wholes.isBelow(b) ? ERROR_PLACE : repeated(a, k, wholes.clamped(b));
        }

        private int repeated(int a, int kind, int times) {
            int n = heap.length(a);
            if (n == 0 || times == 0) {
                return kind == KIND_STRING ? EMPTY_STRING : EMPTY_TUPLE;
            }
            if ((long) n * times > (kind == KIND_STRING ? 4 * MOST_SIZE : MOST_SIZE)) {
                return ERROR_SIZE;
            }
            int at = 0;
            for (int i = 0; i < times; i++) {
                at = kind == KIND_STRING ? heap.copyBytes(a, 0, n, bytes, at) : load(a, 0, n, at);
            }
            return kind == KIND_STRING ? heap.makeString(bytes, 0, at) : heap.makeTuple(row, 0, at);
        }

        /** Members from .. to - 1 of a tuple or set into the row: the place behind. */
        private int load(int h, int from, int to, int at) {
            int n = Math.min(to - from, row.length - at);
            if (n <= 0 || h < 0) {
                return at;
            }
            System.arraycopy(heap.mem, h + 1 + from, row, at, n);
            return at + n;
        }

        // ------------------------------------------------ sets

        /** The first place of a set, from one on, whose member is not less than x. */
        private int placeOf(int set, int from, int x) {
            int low = from;
            int high = heap.length(set);
            for (int i = 0; i < 32 && low < high; i++) {
                int middle = (low + high) >>> 1;
                if (heap.compare(heap.member(set, middle), x) < 0) {
                    low = middle + 1;
                } else {
                    high = middle;
                }
            }
            return low;
        }

        private boolean holds(int set, int x) {
            int at = placeOf(set, 0, x);
            return at < heap.length(set) && heap.same(heap.member(set, at), x);
        }

        private int union(int a, int b) {
            int from = 0;
            int n = 0;
            for (int i = 0; i < heap.length(b); i++) {
                int x = heap.member(b, i);
                int at = placeOf(a, from, x);
                n = load(a, from, at, n);
                from = at;
                if ((at >= heap.length(a) || !heap.same(heap.member(a, at), x)) && n < row.length) {
                    row[n] = x;
                    n++;
                }
            }
            n = load(a, from, heap.length(a), n);
            return heap.makeRow(KIND_SET, row, 0, n);
        }

        private int without(int a, int b) {
            int from = 0;
            int n = 0;
            for (int i = 0; i < heap.length(b); i++) {
                int x = heap.member(b, i);
                int at = placeOf(a, from, x);
                n = load(a, from, at, n);
                from = at < heap.length(a) && heap.same(heap.member(a, at), x) ? at + 1 : at;
            }
            n = load(a, from, heap.length(a), n);
            return heap.makeRow(KIND_SET, row, 0, n);
        }

        /** The members of a that b holds, or those that it does not. */
        private int chosen(int a, int b, boolean held) {
            int n = 0;
            for (int i = 0; i < heap.length(a) && n < row.length; i++) {
                int x = heap.member(a, i);
                int at = placeOf(b, 0, x);
                if ((at < heap.length(b) && heap.same(heap.member(b, at), x)) == held) {
                    row[n] = x;
                    n++;
                }
            }
            return heap.makeRow(KIND_SET, row, 0, n);
        }

        private boolean isSubset(int a, int b) {
            boolean all = heap.length(a) <= heap.length(b);
            for (int i = 0; i < heap.length(a) && all; i++) {
                all = holds(b, heap.member(a, i));
            }
            return all;
        }

        private int contains(int in, int x) {
            switch (heap.kind(in)) {
                case KIND_SET:
                    return truth(holds(in, x));
                case KIND_TUPLE:
                    boolean found = false;
                    for (int i = 0; i < heap.length(in) && !found && x != OM; i++) {
                        found = heap.same(heap.member(in, i), x);
                    }
                    return truth(found);
                case KIND_STRING:
                    return heap.kind(x) == KIND_STRING ? truth(standsIn(x, in)) : ERROR_KIND;
                default:
                    return ERROR_KIND;
            }
        }

        private boolean standsIn(int x, int in) {
            int n = heap.length(x);
            int last = heap.length(in) - n;
            for (int at = 0; at <= last; at++) {
                int i = 0;
                for (int k = 0; k < n && heap.byteAt(x, k) == heap.byteAt(in, at + k); k++) {
                    i++;
                }
                if (i == n) {
                    return true;
                }
            }
            return false;
        }

        /**
         * Puts x among n members that stand in order from a place of a row on, if it is not there;
         * the row has room for it. What stands behind them moves up with them: ends is its end.
         */
        boolean insert(int[] in, int start, int n, int ends, int x) {
            int low = start;
            int high = start + n;
            // Most rows come in order already.
            if (n > 0 && heap.compare(in[high - 1], x) < 0) {
                low = high;
            }
            for (int i = 0; i < 32 && low < high; i++) {
                int middle = (low + high) >>> 1;
                if (heap.compare(in[middle], x) < 0) {
                    low = middle + 1;
                } else {
                    high = middle;
                }
            }
            if (low < start + n && heap.same(in[low], x)) {
                return false;
            }
            System.arraycopy(in, low, in, low + 1, ends - low);
            in[low] = x;
            return true;
        }

        /** A set of n values of a row, which it brings into order there. */
        int setOf(int[] in, int start, int n) {
            for (int i = start; i < start + n; i++) {
                if (in[i] == OM) {
                    return ERROR_OM;
                }
            }
            int kept = 0;
            int size = 1;
            for (int i = 0; i < n; i++) {
                int x = in[start + i];
                if (insert(in, start, kept, start + kept, x)) {
                    kept++;
                    size = size + heap.size(x);
                    if (size > MOST_SIZE) {
                        return ERROR_SIZE;
                    }
                }
            }
            return heap.makeRow(KIND_SET, in, start, kept);
        }

        // ------------------------------------------------ prefixes and words

        int unary(int op, int a) {
            int k = heap.kind(a);
            switch (op) {
                case Op.NEG:
                    return k == KIND_WHOLE ? wholes.negated(a) : ERROR_KIND;
                case Op.ABS:
                    return k == KIND_WHOLE ? wholes.absolute(a) : ERROR_KIND;
                case Op.LEN:
                    return k >= KIND_STRING ? Wholes.small(heap.length(a)) : ERROR_KIND;
                case Op.ARB:
                    return k == KIND_SET ? heap.member(a, 0) : ERROR_KIND;
                case Op.DOMAIN:
                    return heap.isMap(a) ? domain(a) : ERROR_KIND;
                case Op.RANGE_OF:
                    return heap.isMap(a) ? range(a) : ERROR_KIND;
                case Op.POW:
                    return k == KIND_SET ? subsets(a) : ERROR_KIND;
                case Op.TYPE:
                    return printer.word(typeName(k));
                case Op.STR:
                    printer.print(a);
                    return printer.madeString();
                case Op.CHAR:
                    return k == KIND_WHOLE ? charOf(a) : ERROR_KIND;
                case Op.CODE:
                    return k == KIND_STRING ? codeOf(a) : ERROR_KIND;
                default:
                    return k == KIND_STRING || k == KIND_TUPLE ? reversed(a, k) : ERROR_KIND;
            }
        }

        private static String typeName(int kind) {
            switch (kind) {
                case KIND_TRUTH:
                    return "truth";
                case KIND_WHOLE:
                    return "whole";
                case KIND_ATOM:
                    return "atom";
                case KIND_STRING:
                    return "string";
                case KIND_TUPLE:
                    return "tuple";
                case KIND_SET:
                    return "set";
                default:
                    return "om";
            }
        }

        private int charOf(int a) {
            int code = wholes.clamped(a);
            return code >= 0 && code <= 255 ? BYTE_TAG | code : ERROR_PLACE;
        }

        private int codeOf(int a) {
            return heap.length(a) == 1 ? Wholes.small(heap.byteAt(a, 0)) : ERROR_PLACE;
        }

        private int reversed(int a, int kind) {
            int n = heap.length(a);
            if (kind == KIND_STRING) {
                for (int i = 0; i < n && i < bytes.length; i++) {
                    bytes[i] = (byte) heap.byteAt(a, n - 1 - i);
                }
                return heap.makeString(bytes, 0, n);
            }
            for (int i = 0; i < n && i < row.length; i++) {
                row[i] = heap.member(a, n - 1 - i);
            }
            return heap.makeTuple(row, 0, n);
        }

        private int domain(int map) {
            int n = 0;
            for (int i = 0; i < heap.length(map) && n < row.length; i++) {
                int x = heap.member(heap.member(map, i), 0);
                if (x == OM) {
                    return ERROR_OM;
                }
                if (n == 0 || !heap.same(row[n - 1], x)) {
                    row[n] = x;
                    n++;
                }
            }
            return heap.makeRow(KIND_SET, row, 0, n);
        }

        private int range(int map) {
            int n = 0;
            for (int i = 0; i < heap.length(map) && n < row.length; i++) {
                if (insert(row, 0, n, n, heap.member(heap.member(map, i), 1))) {
                    n++;
                }
            }
            return heap.makeRow(KIND_SET, row, 0, n);
        }

        /** The subsets, made in THE ORDER: each one's beginnings come before it. */
        private int subsets(int set) {
            int n = heap.length(set);
            if (n > 8 || 1 + (1 << n) + (1 << n >> 1) * (heap.size(set) - 1) > MOST_SIZE) {
                return ERROR_SIZE;
            }
            row[0] = EMPTY_SET;
            int made = 1;
            int used = 0;
            int last = -1;
            int chosen = 0;
            for (int i = 1; i < 1 << n; i++) {
                if (last == n - 1) {
                    used--;
                    chosen = chosen & ~(1 << last);
                    last = highest(chosen);
                    used--;
                    chosen = chosen & ~(1 << last);
                }
                last++;
                chosen = chosen | 1 << last;
                few[used] = heap.member(set, last);
                used++;
                row[made] = heap.makeRow(KIND_SET, few, 0, used);
                if (isError(row[made])) {
                    return row[made];
                }
                made++;
            }
            return heap.makeRow(KIND_SET, row, 0, made);
        }

        private static int highest(int bits) {
            int at = 0;
            for (int i = 0; i < 8; i++) {
                at = (bits >> i & 1) == 1 ? i : at;
            }
            return at;
        }

        int larger(int a, int b, boolean least) {
            int less = compared(Op.LT, a, b);
            if (isError(less)) {
                return less;
            }
            return (less == TRUE) == least ? a : b;
        }

        /** a, b and so on, as far as they do not pass c; b is om where a + 1 is meant. */
        int progression(int a, int b, int c, boolean set) {
            if (!areWholes(a, c) || (b != OM && heap.kind(b) != KIND_WHOLE)) {
                return ERROR_KIND;
            }
            int second = b == OM ? wholes.added(a, ONE, false) : b;
            // Behind the greatest whole there is none.
            int direction = isError(second) ? 1 : heap.compare(second, a);
            int step = isError(second) ? second : wholes.added(second, a, true);
            int n = 0;
            int size = 1;
            if (a < 0 && c < 0 && second < 0 && !isError(second)) {
                n = smallSteps(Wholes.number(a), Wholes.number(second), Wholes.number(c));
            } else {
                int x = a;
                for (int i = 0; i <= MOST_SIZE && size <= MOST_SIZE && direction != 0 && !isError(x)
                        && heap.compare(x, c) * direction <= 0; i++) {
                    size = size + heap.size(x);
                    row[n] = x;
                    n++;
                    // Where the step is too wide to be a whole all behind the second one passes c.
                    x = i == 0 ? second : isError(step) ? step : wholes.added(x, step, false);
                }
            }
            if (size > MOST_SIZE) {
                return ERROR_SIZE;
            }
            if (!set) {
                return heap.makeTuple(row, 0, n);
            }
            for (int i = 0; direction < 0 && i < n / 2; i++) {
                int other = row[i];
                row[i] = row[n - 1 - i];
                row[n - 1 - i] = other;
            }
            return heap.makeRow(KIND_SET, row, 0, n);
        }

        /** The like of wholes that fit into handles: how many, no more than just too many. */
        private int smallSteps(int a, int b, int c) {
            int n = 0;
            int x = a;
            for (int i = 0; i <= MOST_SIZE && b != a && (b > a ? x <= c : x >= c); i++) {
                row[n] = Wholes.small(x);
                n++;
                x = x + b - a;
            }
            return n;
        }

        // ------------------------------------------------ parts

        int part(int kind, int f, int x, int y) {
            switch (kind) {
                case Op.PART_ONE:
                    return memberAt(f, x);
                case Op.PART_ROW:
                    return slice(f, x, y);
                default:
                    return heap.isMap(f) ? images(f, x) : ERROR_KIND;
            }
        }

        private int memberAt(int f, int x) {
            int k = heap.kind(f);
            if (k == KIND_STRING || k == KIND_TUPLE) {
                if (heap.kind(x) != KIND_WHOLE) {
                    return ERROR_KIND;
                }
                int at = wholes.clamped(x);
                if (at < 1) {
                    return ERROR_PLACE;
                }
                return at <= heap.length(f) ? heap.taken(f, at - 1) : OM;
            }
            if (!heap.isMap(f)) {
                return ERROR_KIND;
            }
            int from = pairsFrom(f, x);
            return pairsTo(f, from, x) == from + 1 ? heap.member(heap.member(f, from), 1) : OM;
        }

        /** The first place of a map whose pair's first member is not less than x. */
        private int pairsFrom(int map, int x) {
            int low = 0;
            int high = heap.length(map);
            for (int i = 0; i < 32 && low < high; i++) {
                int middle = (low + high) >>> 1;
                if (heap.compare(heap.member(heap.member(map, middle), 0), x) < 0) {
                    low = middle + 1;
                } else {
                    high = middle;
                }
            }
            return low;
        }

        private int pairsTo(int map, int from, int x) {
            int to = from;
            for (int i = from; i < heap.length(map) && heap.compare(heap.member(heap.member(map, i), 0), x) == 0; i++) {
                to = i + 1;
            }
            return to;
        }

        private int images(int map, int x) {
            int from = pairsFrom(map, x);
            int to = pairsTo(map, from, x);
            int n = 0;
            for (int i = from; i < to && n < row.length; i++) {
                row[n] = heap.member(heap.member(map, i), 1);
                n++;
            }
            return heap.makeRow(KIND_SET, row, 0, n);
        }

        /** 0 where i .. j goes of f, else the error. */
        private int rowError(int f, int i, int j) {
            int k = heap.kind(f);
            if ((k != KIND_STRING && k != KIND_TUPLE) || heap.kind(i) != KIND_WHOLE || heap.kind(j) != KIND_WHOLE) {
                return ERROR_KIND;
            }
            int from = wholes.clamped(i);
            int to = wholes.clamped(j);
            return from >= 1 && from - 1 <= to && to <= heap.length(f) ? 0 : ERROR_PLACE;
        }

        private int slice(int f, int i, int j) {
            int error = rowError(f, i, j);
            if (error != 0) {
                return error;
            }
            int from = wholes.clamped(i) - 1;
            int n = wholes.clamped(j) - from;
            if (heap.kind(f) == KIND_STRING) {
                heap.copyBytes(f, from, n, bytes, 0);
                return heap.makeString(bytes, 0, n);
            }
            load(f, from, from + n, 0);
            return heap.makeTuple(row, 0, n);
        }

        /** f with v for its part. */
        int written(int kind, int f, int x, int y, int v) {
            switch (kind) {
                case Op.PART_ONE:
                    return heap.isMap(f) ? withPair(f, x, v) : withMember(f, x, v);
                case Op.PART_ROW:
                    return withSlice(f, x, y, v);
                default:
                    return heap.isMap(f) && heap.kind(v) == KIND_SET ? withImages(f, x, v) : ERROR_KIND;
            }
        }

        private int withMember(int f, int x, int v) {
            int k = heap.kind(f);
            boolean goes = k == KIND_TUPLE || (k == KIND_STRING && heap.kind(v) == KIND_STRING && heap.length(v) == 1);
            if (!goes || heap.kind(x) != KIND_WHOLE) {
                return ERROR_KIND;
            }
            int at = wholes.clamped(x);
            int n = heap.length(f);
            if (at < 1 || (k == KIND_STRING && at > n + 1)) {
                return ERROR_PLACE;
            }
            if (k == KIND_STRING) {
                heap.copyBytes(f, 0, n, bytes, 0);
                bytes[at - 1] = (byte) heap.byteAt(v, 0);
                return heap.makeString(bytes, 0, Math.max(n, at));
            }
            if (at > n && v == OM) {
                return f;
            }
            if (at > MOST_SIZE) {
                return ERROR_SIZE;
            }
            load(f, 0, n, 0);
            for (int i = n; i < at; i++) {
                row[i] = OM;
            }
            row[at - 1] = v;
            return heap.makeTuple(row, 0, Math.max(n, at));
        }

        private int pair(int x, int v) {
            few[0] = x;
            few[1] = v;
            return heap.makeRow(KIND_TUPLE, few, 0, 2);
        }

        private int withPair(int f, int x, int v) {
            int from = pairsFrom(f, x);
            int to = pairsTo(f, from, x);
            int n = load(f, 0, from, 0);
            if (v != OM) {
                row[n] = pair(x, v);
                if (isError(row[n])) {
                    return row[n];
                }
                n++;
            }
            n = load(f, to, heap.length(f), n);
            return heap.makeRow(KIND_SET, row, 0, n);
        }

        private int withSlice(int f, int i, int j, int v) {
            int error = heap.kind(v) == heap.kind(f) ? rowError(f, i, j) : ERROR_KIND;
            if (error != 0) {
                return error;
            }
            int from = wholes.clamped(i) - 1;
            int to = wholes.clamped(j);
            int n = heap.length(f);
            if (heap.kind(f) == KIND_STRING) {
                int at = heap.copyBytes(f, 0, from, bytes, 0);
                at = heap.copyBytes(v, 0, heap.length(v), bytes, at);
                at = heap.copyBytes(f, to, n - to, bytes, at);
                return heap.makeString(bytes, 0, at);
            }
            int at = load(f, 0, from, 0);
            at = load(v, 0, heap.length(v), at);
            at = load(f, to, n, at);
            return heap.makeTuple(row, 0, at);
        }

        private int withImages(int f, int x, int v) {
            int from = pairsFrom(f, x);
            int to = pairsTo(f, from, x);
            int size = heap.size(f) + heap.size(v) - 1 + heap.length(v) * (1 + heap.size(x));
            for (int i = from; i < to; i++) {
                size = size - heap.size(heap.member(f, i));
            }
            if (size > MOST_SIZE) {
                return ERROR_SIZE;
            }
            int n = load(f, 0, from, 0);
            for (int i = 0; i < heap.length(v) && n < row.length; i++) {
                row[n] = pair(x, heap.member(v, i));
                if (isError(row[n])) {
                    return row[n];
                }
                n++;
            }
            n = load(f, to, heap.length(f), n);
            return heap.makeRow(KIND_SET, row, 0, n);
        }

        /** What from (0), fromb (1), frome (2) leave of a value that is not empty. */
        int remainder(int f, int way) {
            int n = heap.length(f);
            int from = way == 2 ? 0 : 1;
            int to = way == 2 ? n - 1 : n;
            if (heap.kind(f) == KIND_STRING) {
                heap.copyBytes(f, from, to - from, bytes, 0);
                return heap.makeString(bytes, 0, to - from);
            }
            int count = load(f, from, to, 0);
            return way == 0 ? heap.makeRow(KIND_SET, row, 0, count) : heap.makeTuple(row, 0, count);
        }
    }

    // ---------------------------------------------------------------- texts

    /** The instructions: the lowest byte of an int of the code; above it a number, behind it maybe more. */
    private static final class Op {
        // How a run goes on. Jumps tell how far it is from themselves.
        static final int BEGIN = 0;
        static final int END = 1;
        static final int STOP = 2;
        static final int JUMP = 3;
        static final int JUMP_FALSE = 4;
        static final int JUMP_TRUE = 5;
        static final int AND_JUMP = 6;
        static final int OR_JUMP = 7;
        static final int TRUTH = 8;
        static final int NOT = 9;
        static final int END_VIEW = 10;
        // Calls, points, output.
        static final int FRAME = 16;
        static final int CALL_FUNC = 17;
        static final int END_FUNC = 18;
        static final int CALL_PROC = 19;
        static final int END_PROC = 20;
        static final int POINT = 21;
        static final int FAIL = 22;
        static final int SUCCEED = 23;
        static final int ASSERT = 24;
        // What is put upon the stack, and taken off.
        static final int PUSH = 32;
        static final int LITERAL = 33;
        static final int LITERAL_CELL = 34;
        static final int LOAD = 35;
        static final int LOAD_GLOBAL = 36;
        static final int DROP = 37;
        static final int PICK = 38;
        static final int SWAP = 39;
        static final int GIVE = 40;
        static final int LOAD_PASSING = 41;
        static final int OPEN = 42;
        // What is made of what is upon the stack.
        static final int MAKE_SET = 48;
        static final int MAKE_TUPLE = 49;
        static final int SPAN_SET = 50;
        static final int SPAN_TUPLE = 51;
        static final int STEPS_SET = 52;
        static final int STEPS_TUPLE = 53;
        static final int NEW_ATOM = 54;
        static final int RANDOM = 55;
        // Iters: of exps, then of fors, whose variables are counted.
        static final int ITER = 64;
        static final int NEXT = 65;
        static final int NAME = 66;
        static final int NAMES = 67;
        static final int CLEAR = 68;
        static final int FOR_ITER = 69;
        static final int FOR_NEXT = 70;
        static final int FOR_NAME = 71;
        static final int FOR_NAMES = 72;
        static final int FOR_CLEAR = 73;
        // What formers gather, and long rows.
        static final int GATHER = 80;
        static final int GATHER_SET = 81;
        static final int GATHER_TUPLE = 82;
        static final int GATHERED_SET = 83;
        static final int GATHERED_TUPLE = 84;
        static final int JOIN_SET = 85;
        static final int JOIN_TUPLE = 86;
        // Parts and targets.
        static final int PART_ONE = 96;
        static final int PART_ROW = 97;
        static final int PART_ALL = 98;
        static final int MEMBER = 99;
        static final int WANT_TUPLE = 100;
        static final int TAKE = 101;
        // What brings members together.
        static final int FOLD = 112;
        static final int FOLD_ON = 113;
        // Operators of two.
        static final int ADD = 128;
        static final int SUB = 129;
        static final int MUL = 130;
        static final int DIV = 131;
        static final int MOD = 132;
        static final int POWER = 133;
        static final int EQ = 134;
        static final int NE = 135;
        static final int LT = 136;
        static final int LE = 137;
        static final int GT = 138;
        static final int GE = 139;
        static final int IN = 140;
        static final int NOTIN = 141;
        static final int SUBSET = 142;
        // Operators and words of one.
        static final int NEG = 160;
        static final int LEN = 161;
        static final int ABS = 162;
        static final int ARB = 163;
        static final int DOMAIN = 164;
        static final int RANGE_OF = 165;
        static final int POW = 166;
        static final int TYPE = 167;
        static final int STR = 168;
        static final int CHAR = 169;
        static final int CODE = 170;
        static final int REV = 171;
        // Targets, of the frame in use or of the program's.
        static final int READ = 176;
        static final int READ_GLOBAL = 177;
        static final int WRITE = 192;
        static final int WRITE_GLOBAL = 193;
        static final int PRINT = 208;
    }

    /** The tape, and the token on it that is looked at. */
    private static final class Lexer {
        static final int BAD = 0;
        static final int FINISH = 1;
        static final int NAME = 2;
        static final int NUMBER = 3;
        static final int STRING = 4;
        static final int ASSIGN = 5;
        static final int PLUS = 6;
        static final int MINUS = 7;
        static final int STAR = 8;
        static final int POWER = 9;
        static final int ROUND = 10;
        static final int ROUND_END = 11;
        static final int CURLY = 12;
        static final int CURLY_END = 13;
        static final int SQUARE = 14;
        static final int SQUARE_END = 15;
        static final int COMMA = 16;
        static final int SEMICOLON = 17;
        static final int COLON = 18;
        static final int BAR = 19;
        static final int EQ = 20;
        static final int NE = 21;
        static final int LT = 22;
        static final int LE = 23;
        static final int GT = 24;
        static final int GE = 25;
        static final int HASH = 26;
        static final int SLASH = 27;
        static final int DOTS = 28;
        private static final int DOT = 29;
        private static final int UNDERSCORE = 30;
        private static final int BLANK = 31;
        // The words, as they stand in WORDS.
        static final int VAR = 32;
        static final int PROC = 33;
        static final int FUNC = 34;
        static final int RD = 35;
        static final int WR = 36;
        static final int RW = 37;
        static final int END = 38;
        static final int IF = 39;
        static final int THEN = 40;
        static final int ELSEIF = 41;
        static final int ELSE = 42;
        static final int WHILE = 43;
        static final int DO = 44;
        static final int FOR = 45;
        static final int IN = 46;
        static final int NOTIN = 47;
        static final int SUBSET = 48;
        static final int QUIT = 49;
        static final int CONTINUE = 50;
        static final int RETURN = 51;
        static final int PRINT = 52;
        static final int ASSERT = 53;
        static final int STOP = 54;
        static final int SUCCEED = 55;
        static final int FAIL = 56;
        static final int FROM = 57;
        static final int FROMB = 58;
        static final int FROME = 59;
        static final int OM_WORD = 60;
        static final int TRUE_WORD = 61;
        static final int FALSE_WORD = 62;
        static final int OK = 63;
        static final int AND = 64;
        static final int OR = 65;
        static final int NOT = 66;
        static final int DIV = 67;
        static final int MOD = 68;
        static final int EXISTS = 69;
        static final int FORALL = 70;
        static final int ABS = 71;
        static final int ARB = 72;
        static final int DOMAIN = 73;
        static final int RANGE = 74;
        static final int POW = 75;
        static final int TYPE = 76;
        static final int STR = 77;
        static final int CHAR = 78;
        static final int CODE = 79;
        static final int MIN = 80;
        static final int MAX = 81;
        static final int REV = 82;
        static final int NEWAT = 83;
        static final int RANDOM = 84;
        private static final int FIRST_WORD = VAR;
        private static final int WORD_COUNT = 53;
        private static final String WORDS = "var proc func rd wr rw end if then elseif else while do for in notin subset quit continue return print assert stop succeed fail from fromb frome om true false ok and or not div mod exists forall abs arb domain range pow type str char code min max rev newat random ";

        // What a byte below 128 is, or begins with.
        private static final byte[] CLASSES = {
            0, 0, 0, 0, 0, 0, 0, 0, 0, 31, 31, 0, 0, 31, 0, 0,
            0, 0, 0, 0, 0, 0, 0, 0, 0, 0, 0, 0, 0, 0, 0, 0,
            31, 0, 4, 26, 0, 0, 0, 0, 10, 11, 8, 6, 16, 7, 29, 27,
            3, 3, 3, 3, 3, 3, 3, 3, 3, 3, 18, 17, 22, 20, 24, 0,
            0, 2, 2, 2, 2, 2, 2, 2, 2, 2, 2, 2, 2, 2, 2, 2,
            2, 2, 2, 2, 2, 2, 2, 2, 2, 2, 2, 14, 0, 15, 0, 30,
            0, 2, 2, 2, 2, 2, 2, 2, 2, 2, 2, 2, 2, 2, 2, 2,
            2, 2, 2, 2, 2, 2, 2, 2, 2, 2, 2, 12, 19, 13, 0, 0
        };

        private byte[] tape = new byte[1024];
        private int length;
        private int kind;
        private int start;
        private int end;
        // The bytes of a NAME: the first eight, and those behind them.
        private long high;
        private long low;
        private final long[] words = new long[WORD_COUNT];

        Lexer() {
            int at = 0;
            long key = 0;
            for (int i = 0; i < WORDS.length(); i++) {
                char c = WORDS.charAt(i);
                if (c != ' ') {
                    key = key << 8 | c;
                } else if (at < words.length) {
                    words[at] = key;
                    at++;
                    key = 0;
                }
            }
        }

        /** The number's four bytes, the highest first. */
        void append(int number) {
            widen(length + 4);
            for (int shift = 24; shift >= 0; shift = shift - 8) {
                tape[length] = (byte) (number >> shift);
                length++;
            }
        }

        /** No more than 512 calls can bring, or all that a tape may have. */
        private void widen(int needed) {
            tape = widenedBytes(tape, needed, needed <= MOST_FED + 2 ? MOST_FED + 2 : MOST_TAPE + 2);
        }

        /** Two bytes that are none of any token stand behind the tape while it is read. */
        void rewind() {
            widen(length + 2);
            tape[length] = 0;
            tape[length + 1] = 0;
            end = 0;
        }

        /**
         * The next token is looked at; what is none is thrown, its place being start (fault 1). All is done
         * here, as this is called from deep within.
         */
        void advance() {
            int at = end;
            boolean note = false;
            boolean between = true;
            for (int i = end; i < length && between; i++) {
                int c = tape[i];
                note = note ? c != 10 : c == '-' && tape[i + 1] == '-';
                between = note || (c >= 0 && CLASSES[c] == BLANK);
                at = between ? i + 1 : i;
            }
            start = at;
            end = at < length ? at + 1 : at;
            kind = at >= length ? FINISH : tape[at] < 0 ? BAD : CLASSES[tape[at]];
            int next = tape[end];
            if (kind == NAME) {
                high = 0;
                low = 0;
                int part = NAME;
                for (int i = at; i < length && (part == NAME || part == NUMBER || part == UNDERSCORE); i++) {
                    high = i - at < 8 ? high << 8 | tape[i] : high;
                    low = i - at < 8 ? low : low << 8 | tape[i];
                    end = i + 1;
                    part = tape[end] < 0 ? BAD : CLASSES[tape[end]];
                }
                kind = end - at > 16 ? BAD : NAME;
                for (int w = 0; w < words.length && end - at <= 8; w++) {
                    kind = words[w] == high ? FIRST_WORD + w : kind;
                }
            } else if (kind == NUMBER) {
                for (int i = at; i < length && tape[i] >= '0' && tape[i] <= '9'; i++) {
                    end = i + 1;
                }
                kind = end - at > 60 ? BAD : NUMBER;
            } else if (kind == STRING) {
                for (int i = at + 1; i < length && (tape[i] & 255) >= 32 && tape[i] != '"'; i++) {
                    end = i + 1;
                }
                kind = end < length && tape[end] == '"' && end - at - 1 <= 100 ? STRING : BAD;
                end++;
            } else if (next == '=' && (kind == SLASH || kind == LT || kind == GT || kind == COLON)) {
                kind = kind == COLON ? ASSIGN : kind == SLASH ? NE : kind + 1;
                end++;
            } else if ((kind == STAR && next == '*') || (kind == DOT && next == '.')) {
                kind = kind == STAR ? POWER : DOTS;
                end++;
            }
            if (kind == BAD || kind == DOT || kind == UNDERSCORE) {
                throw new IllegalArgumentException();
            }
        }
    }

    /** A program as code, with the names that its views need. Views' code stands behind it. */
    private static final class Program {
        static final int VARIABLE = 0;
        static final int FUNC = 1;
        static final int PROC = 2;
        // A variable of an exp's iter: it lies apart from the others, as it is gone when the exp is worked.
        static final int PASSING = 3;
        static final int READ_ONLY = 0;
        static final int WRITE_ONLY = 1;
        // The unit of a view or an exp that is asked, behind those of funcs and procs.
        static final int VIEW_UNIT = MOST_UNITS + 1;
        private static final int NAMES = 256;
        // No text makes so many ints of a byte: calls with eight params of wr, 60 ints of 19 bytes, come next to it.
        private static final int FULL_CODE = 36 * MOST_FED / 10;

        // The row of the program that is, in which the next one is read behind it.
        private int[] code = new int[1024];
        private int size;
        private int entry;
        private int statements;
        private int procs;
        // Names that are told, the newest last: what they are, of which unit, its slot or its number.
        private final long[] high = new long[NAMES];
        private final long[] low = new long[NAMES];
        private final int[] what = new int[NAMES];
        private final int[] owner = new int[NAMES];
        private final int[] slot = new int[NAMES];
        private final boolean[] hidden = new boolean[NAMES];
        private int names;
        // Units: the program (0), funcs and procs, a view.
        private int units;
        private final int[] entries = new int[MOST_UNITS + 2];
        private final int[] params = new int[MOST_UNITS + 2];
        private final int[] modes = new int[MOST_UNITS + 2];
        private final int[] variables = new int[MOST_UNITS + 2];
        private final int[] counted = new int[MOST_UNITS + 2];
        // Slots of a call: params and vars; while its text is read those of the fors around, too.
        private final int[] frames = new int[MOST_UNITS + 2];
        // Slots of the iters around in the exp that is read.
        private int passing;

        /** Nothing yet, behind another one's code. */
        void emptyBehind(Program other) {
            code = other.code;
            size = other.size;
            entry = other.size;
            statements = 0;
            procs = 0;
            names = 0;
            units = 0;
            openUnit(0);
        }

        /** The other one's code is not needed any more. Jumps tell how far it is, so that they stay as they are. */
        void moveDown(int far) {
            size = size - far;
            entry = entry - far;
            System.arraycopy(code, far, code, 0, size);
            for (int unit = 0; unit <= units; unit++) {
                entries[unit] = entries[unit] - far;
            }
        }

        void openUnit(int unit) {
            entries[unit] = size;
            params[unit] = 0;
            modes[unit] = 0;
            variables[unit] = 0;
            counted[unit] = 0;
            frames[unit] = 0;
            passing = 0;
        }

        int emit(int op, int number) {
            widen(1);
            code[size] = op | number << 8;
            size++;
            return size - 1;
        }

        int word(int word) {
            widen(1);
            code[size] = word;
            size++;
            return size - 1;
        }

        void words(int[] from, int start, int n) {
            widen(n);
            System.arraycopy(from, start, code, size, n);
            size = size + n;
        }

        /** Once at most; texts of more bytes than 512 calls can feed may be refused here. */
        private void widen(int n) {
            if (size + n > code.length && code.length < FULL_CODE) {
                code = Arrays.copyOf(code, FULL_CODE);
            }
            if (size + n > code.length) {
                throw new IllegalArgumentException();
            }
        }

        void aim(int jump, int to) {
            code[jump] = (code[jump] & 255) | (to - jump) << 8;
        }

        int mode(int unit, int param) {
            return modes[unit] >> 2 * param & 3;
        }

        int found(long h, long l) {
            for (int i = names - 1; i >= 0; i--) {
                if (high[i] == h && low[i] == l && !hidden[i]) {
                    return i;
                }
            }
            return NONE;
        }

        boolean isToldFrom(int from, long h, long l) {
            for (int i = from; i < names; i++) {
                if (high[i] == h && low[i] == l) {
                    return true;
                }
            }
            return false;
        }

        void tell(long h, long l, int kind, int unit, int number) {
            if (names < NAMES) {
                high[names] = h;
                low[names] = l;
                what[names] = kind;
                owner[names] = unit;
                slot[names] = number;
                hidden[names] = false;
                names++;
            }
        }

        int newSlots(int unit, int n) {
            frames[unit] = frames[unit] + n;
            return frames[unit] - n;
        }

        int newPassing(int n) {
            passing = passing + n;
            return passing - n;
        }
    }

    /**
     * Reads the tape's text and writes its code. A fault is kept and thrown; recursion goes no deeper
     * than twenty of the kinds that fault 3 counts, each through a few methods.
     */
    private static final class Parser {
        static final int NOTHING_NEW = 0;
        static final int RANDOM_ONLY = 1;
        static final int ALL = 2;

        private static final int LEVEL_OR = 0;
        private static final int LEVEL_AND = 1;
        private static final int LEVEL_NOT = 2;
        private static final int LEVEL_REL = 3;
        private static final int LEVEL_SUM = 4;
        private static final int LEVEL_TERM = 5;
        private static final int LEVEL_POWER = 6;
        private static final int LEVEL_PREFIX = 7;
        // An operator among the marks: its level, its instruction, a jump's place or the way of a fold.
        private static final int POSTPONED = 3;
        // A target among the marks: its name's slot and unit, how many values and parts, the parts' kinds.
        private static final int TARGET_HEAD = 4;
        // Two marks a byte, of holes; besides these a few for each of those that are open.
        private static final int FULL_MARKS = 2 * MOST_FED + 1024;
        // No exp makes more than three ints of two bytes.
        private static final int FULL_LATER = 3 * MOST_FED / 2 + 1024;

        private final Lexer lex;
        private final Wholes wholes;
        private Program p;
        private int unit;
        private int allowed;
        private int open;
        private int faultCode;
        private int faultPlace;
        // The innermost loop: where its next turn begins, and the newest of its quits (0: none yet).
        private int loopNext;
        private int quits;
        private int[] marks = new int[256];
        private int marked;
        // Code that is to stand behind a call: the targets that are written then.
        private int[] later = new int[64];
        private int kept;
        private int rowFirst;
        private int rowLast;
        // The latest operand that is a variable with its parts: its place, code's end, marks, name.
        private int targetPlace;
        private int targetEnd;
        private int targetMarks;
        private int targetCount;
        private int targetName;

        Parser(Lexer lex, Wholes wholes) {
            this.lex = lex;
            this.wholes = wholes;
        }

        boolean readProgram(Program into) {
            begin(into, 0, ALL);
            try {
                lex.advance();
                for (int i = 0; i <= MOST_TAPE && lex.kind >= Lexer.VAR && lex.kind <= Lexer.FUNC; i++) {
                    if (lex.kind == Lexer.VAR) {
                        variables(0);
                    } else if (lex.kind == Lexer.FUNC) {
                        function();
                    } else {
                        procedure();
                    }
                }
                into.entry = into.size;
                block();
                want(Lexer.FINISH);
                into.emit(Op.END, 0);
                return true;
            } catch (IllegalArgumentException e) {
                noteFault();
                return false;
            }
        }

        /** Where none of the others was met it is the token itself. */
        private void noteFault() {
            if (faultCode == 0) {
                faultCode = 1;
                faultPlace = lex.start;
            }
        }

        /** An exp behind the program's code, as VIEW_UNIT; with a fault the program is as before. */
        boolean readExp(Program of, int allowedWords) {
            int size = of.size;
            int names = of.names;
            of.openUnit(Program.VIEW_UNIT);
            begin(of, Program.VIEW_UNIT, allowedWords);
            try {
                lex.advance();
                exp(0);
                want(Lexer.FINISH);
                of.emit(Op.END_VIEW, 0);
                return true;
            } catch (IllegalArgumentException e) {
                noteFault();
                of.size = size;
                of.names = names;
                return false;
            }
        }

        private void begin(Program into, int unitRead, int allowedWords) {
            p = into;
            unit = unitRead;
            allowed = allowedWords;
            open = 0;
            faultCode = 0;
            faultPlace = 0;
            loopNext = NONE;
            quits = 0;
            marked = 0;
            kept = 0;
            targetPlace = NONE;
            lex.rewind();
        }

        private void refuse(int code, int place) {
            faultCode = code;
            faultPlace = place;
            throw new IllegalArgumentException();
        }

        private void want(int kind) {
            if (lex.kind != kind) {
                refuse(2, lex.start);
            }
        }

        private void expect(int kind) {
            if (lex.kind != kind) {
                refuse(2, lex.start);
            }
            lex.advance();
        }

        private void opens() {
            if (open >= MOST_OPEN) {
                refuse(3, lex.start);
            }
            open++;
            lex.advance();
        }

        private void closes(int kind) {
            if (lex.kind != kind) {
                refuse(2, lex.start);
            }
            open--;
            lex.advance();
        }

        private int mark(int n) {
            widenMarks(1);
            marks[marked] = n;
            marked++;
            return marked - 1;
        }

        private void widenMarks(int n) {
            if (marked + n > marks.length && marks.length < FULL_MARKS) {
                marks = Arrays.copyOf(marks, FULL_MARKS);
            }
            if (marked + n > marks.length) {
                throw new IllegalArgumentException();
            }
        }

        // ------------------------------------------------ programs

        private void variables(int from) {
            lex.advance();
            tellVariable(from);
            for (int i = 0; i <= MOST_TAPE && lex.kind == Lexer.COMMA; i++) {
                lex.advance();
                tellVariable(from);
            }
            expect(Lexer.SEMICOLON);
        }

        /** A variable of the unit, other than the names told from a place on. */
        private void tellVariable(int from) {
            checkName(from);
            p.counted[unit]++;
            p.tell(lex.high, lex.low, Program.VARIABLE, unit, p.newSlots(unit, 1));
            lex.advance();
        }

        private void checkName(int from) {
            if (lex.kind != Lexer.NAME) {
                refuse(2, lex.start);
            }
            if (p.isToldFrom(from, lex.high, lex.low)) {
                refuse(4, lex.start);
            }
            if (p.variables[unit] >= MOST_VARIABLES) {
                refuse(8, lex.start);
            }
            p.variables[unit]++;
        }

        /** The head of a func or proc, its ( too: where the names of its params will begin. */
        private int tellUnit(int kind) {
            lex.advance();
            want(Lexer.NAME);
            if (p.isToldFrom(0, lex.high, lex.low)) {
                refuse(4, lex.start);
            }
            if (p.units >= MOST_UNITS) {
                refuse(8, lex.start);
            }
            p.units++;
            unit = p.units;
            p.openUnit(unit);
            p.tell(lex.high, lex.low, kind, 0, unit);
            lex.advance();
            want(Lexer.ROUND);
            opens();
            return p.names;
        }

        private void parameter(int names) {
            want(Lexer.NAME);
            if (p.isToldFrom(names, lex.high, lex.low)) {
                refuse(4, lex.start);
            }
            if (p.params[unit] >= MOST_PARAMS) {
                refuse(8, lex.start);
            }
            tellVariable(names);
            p.params[unit]++;
        }

        private void function() {
            int names = tellUnit(Program.FUNC);
            allowed = NOTHING_NEW;
            if (lex.kind != Lexer.ROUND_END) {
                parameter(names);
                for (int i = 0; i <= MOST_PARAMS && lex.kind == Lexer.COMMA; i++) {
                    lex.advance();
                    parameter(names);
                }
            }
            closes(Lexer.ROUND_END);
            expect(Lexer.EQ);
            exp(0);
            p.emit(Op.END_FUNC, 0);
            expect(Lexer.SEMICOLON);
            closeUnit(names);
        }

        private void closeUnit(int names) {
            p.names = names;
            unit = 0;
            allowed = ALL;
        }

        private void procedure() {
            int names = tellUnit(Program.PROC);
            p.procs++;
            if (lex.kind != Lexer.ROUND_END) {
                modeAndParameter(names);
                for (int i = 0; i <= MOST_PARAMS && lex.kind == Lexer.COMMA; i++) {
                    lex.advance();
                    modeAndParameter(names);
                }
            }
            closes(Lexer.ROUND_END);
            expect(Lexer.SEMICOLON);
            for (int i = 0; i <= MOST_TAPE && lex.kind == Lexer.VAR; i++) {
                variables(names);
            }
            block();
            expect(Lexer.END);
            push(OM);
            p.emit(Op.END_PROC, 0);
            expect(Lexer.SEMICOLON);
            closeUnit(names);
        }

        private void modeAndParameter(int names) {
            int mode = Program.READ_ONLY;
            if (lex.kind == Lexer.RD || lex.kind == Lexer.WR || lex.kind == Lexer.RW) {
                mode = lex.kind - Lexer.RD;
                lex.advance();
            }
            int at = p.params[unit];
            parameter(names);
            p.modes[unit] = p.modes[unit] | mode << 2 * at;
        }

        // ------------------------------------------------ statements

        private boolean beginsStatement() {
            switch (lex.kind) {
                case Lexer.NAME:
                case Lexer.SQUARE:
                case Lexer.IF:
                case Lexer.WHILE:
                case Lexer.FOR:
                case Lexer.QUIT:
                case Lexer.CONTINUE:
                case Lexer.RETURN:
                case Lexer.PRINT:
                case Lexer.ASSERT:
                case Lexer.STOP:
                case Lexer.SUCCEED:
                case Lexer.FAIL:
                    return true;
                default:
                    return false;
            }
        }

        private void block() {
            for (int i = 0; i <= MOST_STATEMENTS && beginsStatement(); i++) {
                checkStatement();
                p.statements++;
                int begin = p.emit(Op.BEGIN, lex.start);
                statement(begin);
            }
        }

        private void checkStatement() {
            int kind = lex.kind;
            boolean opening = kind == Lexer.SQUARE || kind == Lexer.IF || kind == Lexer.WHILE || kind == Lexer.FOR;
            if (opening && open >= MOST_OPEN) {
                refuse(3, lex.start);
            }
            if (p.statements >= MOST_STATEMENTS) {
                refuse(8, lex.start);
            }
            boolean inLoop = loopNext != NONE;
            if (((kind == Lexer.QUIT || kind == Lexer.CONTINUE) && !inLoop) || (kind == Lexer.RETURN && unit == 0)) {
                refuse(7, lex.start);
            }
        }

        private void statement(int begin) {
            switch (lex.kind) {
                case Lexer.NAME:
                    nameStatement();
                    break;
                case Lexer.SQUARE:
                    holesStatement();
                    break;
                case Lexer.IF:
                    ifStatement();
                    break;
                case Lexer.WHILE:
                    whileStatement(begin);
                    break;
                case Lexer.FOR:
                    forStatement();
                    break;
                case Lexer.PRINT:
                    lex.advance();
                    want(Lexer.ROUND);
                    opens();
                    p.emit(Op.PRINT, exps());
                    closes(Lexer.ROUND_END);
                    break;
                default:
                    plainStatement();
                    break;
            }
            expect(Lexer.SEMICOLON);
        }

        private void plainStatement() {
            int kind = lex.kind;
            lex.advance();
            switch (kind) {
                case Lexer.QUIT:
                    quits = p.emit(Op.JUMP, quits);
                    break;
                case Lexer.CONTINUE:
                    p.aim(p.emit(Op.JUMP, 0), loopNext);
                    break;
                case Lexer.RETURN:
                    if (lex.kind == Lexer.SEMICOLON) {
                        push(OM);
                    } else {
                        exp(0);
                    }
                    p.emit(Op.END_PROC, 0);
                    break;
                case Lexer.ASSERT:
                    exp(0);
                    p.emit(Op.ASSERT, 0);
                    break;
                case Lexer.STOP:
                    p.emit(Op.STOP, 0);
                    break;
                case Lexer.SUCCEED:
                    p.emit(Op.SUCCEED, 0);
                    break;
                default:
                    p.emit(Op.FAIL, 0);
                    break;
            }
        }

        private void push(int value) {
            p.emit(Op.PUSH, 0);
            p.word(value);
        }

        /** Jumps that wait, each telling the one before it (0: none), come here. */
        private void aimAll(int newest) {
            int at = newest;
            for (int i = 0; i <= MOST_TAPE && at != 0; i++) {
                int before = p.code[at] >> 8;
                p.aim(at, p.size);
                at = before;
            }
        }

        private void ifStatement() {
            opens();
            if (lex.kind == Lexer.OK) {
                lex.advance();
                p.emit(Op.POINT, 0);
            } else {
                exp(0);
            }
            int ends = 0;
            expect(Lexer.THEN);
            int otherwise = p.emit(Op.JUMP_FALSE, 0);
            block();
            for (int i = 0; i <= MOST_TAPE && lex.kind == Lexer.ELSEIF; i++) {
                ends = p.emit(Op.JUMP, ends);
                p.aim(otherwise, p.size);
                lex.advance();
                exp(0);
                expect(Lexer.THEN);
                otherwise = p.emit(Op.JUMP_FALSE, 0);
                block();
            }
            if (lex.kind == Lexer.ELSE) {
                ends = p.emit(Op.JUMP, ends);
                p.aim(otherwise, p.size);
                otherwise = NONE;
                lex.advance();
                block();
            }
            closes(Lexer.END);
            if (otherwise != NONE) {
                p.aim(otherwise, p.size);
            }
            aimAll(ends);
        }

        private void whileStatement(int begin) {
            opens();
            exp(0);
            expect(Lexer.DO);
            int over = p.emit(Op.JUMP_FALSE, 0);
            loopBody(begin);
            p.aim(over, p.size);
        }

        /** A loop's statements and its jump back; its quits come behind that. */
        private void loopBody(int next) {
            int outerNext = loopNext;
            int outerQuits = quits;
            loopNext = next;
            quits = 0;
            block();
            closes(Lexer.END);
            p.aim(p.emit(Op.JUMP, 0), next);
            aimAll(quits);
            loopNext = outerNext;
            quits = outerQuits;
        }

        private void forStatement() {
            int names = p.names;
            int marksBefore = marked;
            int slots = p.frames[unit];
            opens();
            int opened = p.emit(Op.OPEN, 0);
            iters(true);
            int more = p.frames[unit] - slots;
            p.code[opened] = Op.OPEN | more << 8;
            int first = rowFirst;
            int last = rowLast;
            if (lex.kind == Lexer.BAR) {
                lex.advance();
                exp(0);
                p.aim(p.emit(Op.JUMP_FALSE, 0), last);
            }
            expect(Lexer.DO);
            loopBody(last);
            p.code[first + 1] = p.size - first;
            for (int at = marksBefore; at + 2 < marked; at = at + 3) {
                p.emit(Op.FOR_CLEAR, marks[at]);
                p.word(marks[at + 1]);
                p.word(marks[at + 2]);
            }
            p.emit(Op.DROP, more);
            marked = marksBefore;
            p.frames[unit] = slots;
            p.names = names;
        }

        // ------------------------------------------------ targets

        private void nameStatement() {
            int place = lex.start;
            int name = takenName();
            int what = name == NONE ? Program.FUNC : p.what[name];
            if (what == Program.FUNC || (what == Program.PROC && lex.kind != Lexer.ROUND)) {
                refuse(5, place);
            }
            if (what == Program.PROC) {
                kept = 0;
                call(p.slot[name], 0);
                p.emit(Op.DROP, 1 + p.params[p.slot[name]]);
                return;
            }
            int from = p.size;
            int target = target(name);
            switch (lex.kind) {
                case Lexer.ASSIGN:
                    lex.advance();
                    name = lex.kind == Lexer.NAME ? p.found(lex.high, lex.low) : NONE;
                    if (name != NONE && p.what[name] == Program.PROC) {
                        postponeTarget(from);
                        call(p.slot[name], kept);
                        assignResult(target, p.slot[name]);
                    } else {
                        assignment(target);
                    }
                    break;
                case Lexer.PLUS:
                case Lexer.MINUS:
                case Lexer.STAR:
                    operation(target, lex.kind);
                    break;
                case Lexer.FROM:
                case Lexer.FROMB:
                case Lexer.FROME:
                    int way = lex.kind - Lexer.FROM;
                    lex.advance();
                    taking(target, target(NONE), way);
                    break;
                default:
                    refuse(2, lex.start);
                    break;
            }
            marked = target;
        }

        private int takenName() {
            long high = lex.high;
            long low = lex.low;
            lex.advance();
            return p.found(high, low);
        }

        /** A variable's name, if it has not been taken (NONE), and the parts: where it is among the marks. */
        private int target(int taken) {
            int name = taken;
            if (name == NONE) {
                want(Lexer.NAME);
                int place = lex.start;
                name = takenName();
                if (name == NONE || p.what[name] != Program.VARIABLE) {
                    refuse(5, place);
                }
            }
            int target = mark(p.slot[name]);
            mark(p.owner[name]);
            mark(0);
            mark(0);
            for (int i = 0; i <= MOST_TAPE && (lex.kind == Lexer.ROUND || lex.kind == Lexer.CURLY); i++) {
                int kind = part();
                mark(kind);
                marks[target + 2] += kind == Op.PART_ROW ? 2 : 1;
                marks[target + 3]++;
            }
            return target;
        }

        /** READ or WRITE of a target whose values begin so far below the stack's top. */
        private void emitTarget(int op, int target, int depth) {
            int global = marks[target + 1] == unit ? 0 : 1;
            p.emit(op + global, marks[target]);
            p.word(depth);
            p.word(marks[target + 3]);
            p.words(marks, target + TARGET_HEAD, marks[target + 3]);
        }

        private void assignment(int target) {
            if (lex.kind == Lexer.OK && marks[target + 3] == 0) {
                lex.advance();
                p.emit(Op.POINT, 0);
            } else {
                exp(0);
            }
            emitTarget(Op.WRITE, target, marks[target + 2] + 1);
            p.emit(Op.DROP, marks[target + 2] + 1);
        }

        private void operation(int target, int sign) {
            lex.advance();
            expect(Lexer.ASSIGN);
            exp(0);
            emitTarget(Op.READ, target, marks[target + 2] + 1);
            p.emit(Op.SWAP, 0);
            p.emit(sign == Lexer.PLUS ? Op.ADD : sign == Lexer.MINUS ? Op.SUB : Op.MUL, 0);
            emitTarget(Op.WRITE, target, marks[target + 2] + 1);
            p.emit(Op.DROP, marks[target + 2] + 1);
        }

        private void taking(int target, int source, int way) {
            int values = marks[target + 2];
            int sourceValues = marks[source + 2];
            emitTarget(Op.READ, source, sourceValues);
            int none = p.emit(Op.TAKE, way);
            p.word(0);
            emitTarget(Op.WRITE, source, sourceValues + 2);
            p.code[none + 1] = p.size - none;
            p.emit(Op.DROP, 1);
            emitTarget(Op.WRITE, target, values + sourceValues + 1);
            p.emit(Op.DROP, values + sourceValues + 1);
        }

        private void holesStatement() {
            int first = marked;
            int holes = 0;
            int values = 0;
            boolean more = true;
            opens();
            for (int i = 0; i <= MOST_TAPE && more; i++) {
                if (lex.kind == Lexer.MINUS) {
                    lex.advance();
                    markNoTarget();
                } else {
                    int target = target(NONE);
                    values = values + marks[target + 2];
                }
                holes++;
                more = lex.kind == Lexer.COMMA;
                if (more) {
                    lex.advance();
                }
            }
            closes(Lexer.SQUARE_END);
            expect(Lexer.ASSIGN);
            exp(0);
            writeHoles(first, holes, values);
            marked = first;
        }

        private void markNoTarget() {
            mark(NONE);
            mark(0);
            mark(0);
            mark(0);
        }

        private void writeHoles(int first, int holes, int values) {
            p.emit(Op.WANT_TUPLE, 0);
            int below = values;
            int at = first;
            for (int i = 0; i < holes; i++) {
                if (marks[at] != NONE) {
                    p.emit(Op.MEMBER, i);
                    emitTarget(Op.WRITE, at, below + 2);
                    p.emit(Op.DROP, 1);
                }
                below = below - marks[at + 2];
                at = at + TARGET_HEAD + marks[at + 3];
            }
            p.emit(Op.DROP, values + 1);
        }

        // ------------------------------------------------ calls

        private void keep(int[] from, int start, int n) {
            later = widened(later, kept + n, FULL_LATER);
            if (kept + n > later.length) {
                throw new IllegalArgumentException();
            }
            System.arraycopy(from, start, later, kept, n);
            kept = kept + n;
        }

        /** target := NAME ( .. ): the target's exps are worked behind the call. */
        private void postponeTarget(int from) {
            int place = lex.start;
            kept = 0;
            keep(p.code, from, p.size - from);
            p.size = from;
            lex.advance();
            if (lex.kind != Lexer.ROUND) {
                refuse(5, place);
            }
        }

        private void assignResult(int target, int proc) {
            int values = marks[target + 2];
            p.emit(Op.PICK, values + p.params[proc]);
            emitTarget(Op.WRITE, target, values + 1);
            p.emit(Op.DROP, values + 2 + p.params[proc]);
        }

        /**
         * From the ( on. Behind it the proc's value and its params are upon the stack, and then what was kept
         * of the target before it.
         */
        private void call(int proc, int before) {
            int params = p.params[proc];
            int n = 0;
            p.emit(Op.FRAME, 0);
            opens();
            boolean more = lex.kind != Lexer.ROUND_END;
            for (int i = 0; i <= MOST_TAPE && more; i++) {
                int place = lex.start;
                int from = p.size;
                exp(0);
                int mode = n < params ? p.mode(proc, n) : Program.READ_ONLY;
                if (mode != Program.READ_ONLY) {
                    if (targetPlace != place || targetEnd != p.size) {
                        refuse(6, place);
                    }
                    keepTarget(params - 1 - n);
                }
                if (mode == Program.WRITE_ONLY) {
                    p.size = from;
                    push(OM);
                }
                n++;
                more = lex.kind == Lexer.COMMA;
                if (more) {
                    lex.advance();
                }
            }
            want(Lexer.ROUND_END);
            if (n != params) {
                refuse(6, lex.start);
            }
            closes(Lexer.ROUND_END);
            p.emit(Op.CALL_PROC, proc);
            p.words(later, before, kept - before);
            p.words(later, 0, before);
        }

        /** Keeps the writing of the operand just read, with a param's value that lies so deep. */
        private void keepTarget(int deep) {
            int end = p.size;
            int values = 0;
            for (int i = 0; i < targetCount; i++) {
                int at = targetMarks + 3 * i;
                p.words(p.code, marks[at], marks[at + 1] - marks[at]);
                values = values + (marks[at + 2] == Op.PART_ROW ? 2 : 1);
            }
            p.emit(Op.PICK, values + deep);
            p.emit(Op.WRITE + (p.owner[targetName] == unit ? 0 : 1), p.slot[targetName]);
            p.word(values + 1);
            p.word(targetCount);
            for (int i = 0; i < targetCount; i++) {
                p.word(marks[targetMarks + 3 * i + 2]);
            }
            p.emit(Op.DROP, values + 1);
            keep(p.code, end, p.size - end);
            p.size = end;
        }

        // ------------------------------------------------ exps

        private int exps() {
            exp(0);
            int n = 1;
            for (int i = 0; i <= MOST_TAPE && lex.kind == Lexer.COMMA; i++) {
                lex.advance();
                exp(0);
                n++;
            }
            return n;
        }

        private static int level(int kind) {
            switch (kind) {
                case Lexer.OR:
                    return LEVEL_OR;
                case Lexer.AND:
                    return LEVEL_AND;
                case Lexer.EQ:
                case Lexer.NE:
                case Lexer.LT:
                case Lexer.LE:
                case Lexer.GT:
                case Lexer.GE:
                case Lexer.IN:
                case Lexer.NOTIN:
                case Lexer.SUBSET:
                    return LEVEL_REL;
                case Lexer.PLUS:
                case Lexer.MINUS:
                    return LEVEL_SUM;
                case Lexer.STAR:
                case Lexer.DIV:
                case Lexer.MOD:
                    return LEVEL_TERM;
                case Lexer.POWER:
                    return LEVEL_POWER;
                default:
                    return NONE;
            }
        }

        private static int binaryOp(int kind) {
            switch (kind) {
                case Lexer.PLUS:
                    return Op.ADD;
                case Lexer.MINUS:
                    return Op.SUB;
                case Lexer.STAR:
                    return Op.MUL;
                case Lexer.DIV:
                    return Op.DIV;
                case Lexer.MOD:
                    return Op.MOD;
                case Lexer.POWER:
                    return Op.POWER;
                case Lexer.IN:
                    return Op.IN;
                case Lexer.NOTIN:
                    return Op.NOTIN;
                case Lexer.SUBSET:
                    return Op.SUBSET;
                default:
                    return Op.EQ + kind - Lexer.EQ;
            }
        }

        /**
         * An exp of operators of this level at least (0: a whole exp, LEVEL_SUM: a sum). Operators wait among
         * the marks until what stands behind them is read, so that only brackets and their like go deeper.
         */
        private void exp(int least) {
            int first = marked;
            boolean more = true;
            for (int i = 0; i <= MOST_TAPE && more; i++) {
                boolean prefixed = true;
                for (int k = 0; k <= MOST_OPEN && prefixed; k++) {
                    prefixed = prefix(first, least);
                }
                operand();
                int level = level(lex.kind);
                more = level >= least;
                if (more) {
                    // Comparisons do not follow each other, and ** takes what is right of it first.
                    boolean alone = level == LEVEL_REL || level == LEVEL_POWER;
                    settle(first, alone ? level + 1 : level);
                    more = level != LEVEL_REL || postponedLevel(first) != LEVEL_REL;
                }
                int kind = lex.kind;
                if (more && level == LEVEL_POWER) {
                    opens();
                } else if (more) {
                    lex.advance();
                }
                if (more && level <= LEVEL_AND) {
                    postpone(level, Op.TRUTH, p.emit(level == LEVEL_OR ? Op.OR_JUMP : Op.AND_JUMP, 0));
                } else if (more) {
                    postpone(level, binaryOp(kind), 0);
                }
            }
            settle(first, 0);
        }

        private int postponedLevel(int first) {
            return marked > first ? marks[marked - POSTPONED] : NONE;
        }

        private void postpone(int level, int op, int more) {
            widenMarks(POSTPONED);
            marks[marked] = level;
            marks[marked + 1] = op;
            marks[marked + 2] = more;
            marked = marked + POSTPONED;
        }

        /** An operator before an operand, if one stands here. */
        private boolean prefix(int first, int least) {
            int kind = lex.kind;
            boolean not = kind == Lexer.NOT && (marked == first ? least : postponedLevel(first)) <= LEVEL_NOT;
            int way = kind == Lexer.PLUS ? 0 : kind == Lexer.STAR ? 1 : kind == Lexer.MAX ? 2 : kind == Lexer.MIN ? 3 : NONE;
            if (!not && way == NONE && kind != Lexer.MINUS && kind != Lexer.HASH) {
                return false;
            }
            if (open >= MOST_OPEN) {
                refuse(3, lex.start);
            }
            open++;
            lex.advance();
            if (not) {
                postpone(LEVEL_NOT, Op.NOT, 0);
            } else if (way == NONE) {
                postpone(LEVEL_PREFIX, kind == Lexer.MINUS ? Op.NEG : Op.LEN, 0);
            } else {
                expect(Lexer.SLASH);
                postpone(LEVEL_PREFIX, Op.FOLD, way);
            }
            return true;
        }

        /** Operators of this level at least have all that stands behind them. */
        private void settle(int first, int least) {
            for (int i = 0; i <= MOST_TAPE && marked > first && marks[marked - POSTPONED] >= least; i++) {
                marked = marked - POSTPONED;
                int level = marks[marked];
                int more = marks[marked + 2];
                p.emit(marks[marked + 1], 0);
                if (level <= LEVEL_AND) {
                    p.aim(more, p.size);
                } else if (level == LEVEL_NOT || level >= LEVEL_POWER) {
                    open--;
                }
                if (marks[marked + 1] == Op.FOLD) {
                    p.emit(Op.FOLD_ON, more);
                }
            }
        }

        private void operand() {
            int place = lex.start;
            int before = marked;
            int name = primary();
            int count = 0;
            for (int i = 0; i <= MOST_TAPE && (lex.kind == Lexer.ROUND || lex.kind == Lexer.CURLY); i++) {
                int from = p.size;
                int kind = part();
                mark(from);
                mark(p.size);
                mark(kind);
                p.emit(kind, 0);
                count++;
            }
            targetPlace = name == NONE ? NONE : place;
            targetEnd = p.size;
            targetMarks = before;
            targetCount = count;
            targetName = name;
            marked = before;
        }

        /** The exps of a part: its kind. */
        private int part() {
            int kind = Op.PART_ONE;
            if (lex.kind == Lexer.CURLY) {
                opens();
                exp(0);
                closes(Lexer.CURLY_END);
                return Op.PART_ALL;
            }
            opens();
            exp(0);
            if (lex.kind == Lexer.DOTS) {
                lex.advance();
                exp(0);
                kind = Op.PART_ROW;
            }
            closes(Lexer.ROUND_END);
            return kind;
        }

        /** The name, if it is just that of a variable; else NONE. */
        private int primary() {
            switch (lex.kind) {
                case Lexer.NAME:
                    return named();
                case Lexer.NUMBER:
                    number();
                    break;
                case Lexer.STRING:
                    string();
                    break;
                case Lexer.OM_WORD:
                case Lexer.TRUE_WORD:
                case Lexer.FALSE_WORD:
                    push(lex.kind == Lexer.OM_WORD ? OM : truth(lex.kind == Lexer.TRUE_WORD));
                    lex.advance();
                    break;
                case Lexer.ROUND:
                    opens();
                    exp(0);
                    closes(Lexer.ROUND_END);
                    break;
                case Lexer.CURLY:
                    row(Lexer.CURLY_END, 0);
                    break;
                case Lexer.SQUARE:
                    row(Lexer.SQUARE_END, 1);
                    break;
                case Lexer.EXISTS:
                case Lexer.FORALL:
                    quantifier();
                    break;
                case Lexer.IF:
                    choice();
                    break;
                default:
                    word();
                    break;
            }
            return NONE;
        }

        private int named() {
            int place = lex.start;
            int name = takenName();
            int what = name == NONE ? Program.PROC : p.what[name];
            if (what == Program.PROC || (what == Program.FUNC && lex.kind != Lexer.ROUND)) {
                refuse(5, place);
            }
            if (what == Program.FUNC) {
                functionCall(p.slot[name]);
                return NONE;
            }
            int local = what == Program.PASSING ? Op.LOAD_PASSING : Op.LOAD;
            p.emit(p.owner[name] == unit ? local : Op.LOAD_GLOBAL, p.slot[name]);
            return name;
        }

        private void functionCall(int func) {
            p.emit(Op.FRAME, 0);
            opens();
            int depth = open;
            int n = lex.kind == Lexer.ROUND_END ? 0 : exps();
            want(Lexer.ROUND_END);
            if (n != p.params[func]) {
                refuse(6, lex.start);
            }
            closes(Lexer.ROUND_END);
            p.emit(Op.CALL_FUNC, func);
            p.word(depth | p.passing << 8);
        }

        private void number() {
            int n = wholes.readDigits(lex.tape, lex.start, lex.end);
            int first = wholes.resultLimb(0);
            if (n == 0 || (n == 1 && first >= 0 && first < SMALL_LIMIT)) {
                p.emit(Op.LITERAL, 0);
                p.word(Wholes.small(first));
            } else {
                p.emit(Op.LITERAL_CELL, n + 1);
                p.word(Heap.header(KIND_WHOLE, 0, n, 1 + n, 0));
                for (int i = 0; i < n; i++) {
                    p.word(wholes.resultLimb(i));
                }
            }
            lex.advance();
        }

        private void string() {
            int from = lex.start + 1;
            int n = lex.end - 1 - from;
            if (n <= 1) {
                p.emit(Op.LITERAL, 0);
                p.word(n == 0 ? EMPTY_STRING : BYTE_TAG | (lex.tape[from] & 255));
            } else {
                int words = (n + 3) >> 2;
                p.emit(Op.LITERAL_CELL, words + 1);
                int at = p.word(Heap.header(KIND_STRING, 0, n, 1 + words, 0));
                for (int i = 0; i < words; i++) {
                    p.word(0);
                }
                for (int i = 0; i < n; i++) {
                    p.code[at + 1 + (i >> 2)] |= (lex.tape[from + i] & 255) << ((i & 3) << 3);
                }
            }
            lex.advance();
        }

        /** { .. } or [ .. ] : tuple is 1 for the latter, whose instructions stand behind those of sets. */
        private void row(int close, int tuple) {
            opens();
            if (lex.kind == Lexer.FOR) {
                former(tuple);
            } else if (lex.kind == close) {
                p.emit(Op.MAKE_SET + tuple, 0);
            } else {
                exp(0);
                if (lex.kind == Lexer.DOTS) {
                    lex.advance();
                    exp(0);
                    p.emit(Op.SPAN_SET + tuple, 0);
                } else {
                    members(tuple);
                }
            }
            closes(close);
        }

        /** Behind as many as a value can have at the most they are gathered, so that no more lie upon the stack. */
        private void members(int tuple) {
            int n = 1;
            for (int i = 0; i <= MOST_TAPE && lex.kind == Lexer.COMMA; i++) {
                lex.advance();
                if (n == MOST_SIZE) {
                    p.emit(Op.JOIN_SET + tuple, n);
                }
                exp(0);
                n++;
                if (n > MOST_SIZE) {
                    p.emit(Op.GATHER_SET + tuple, 1);
                }
                if (n == 2 && lex.kind == Lexer.DOTS) {
                    lex.advance();
                    exp(0);
                    p.emit(Op.STEPS_SET + tuple, 0);
                    return;
                }
            }
            p.emit(n > MOST_SIZE ? Op.GATHERED_SET + tuple : Op.MAKE_SET + tuple, n);
        }

        private void former(int tuple) {
            lex.advance();
            int names = p.names;
            int slots = p.passing;
            p.emit(Op.GATHER, 0);
            iters(false);
            int first = rowFirst;
            int last = rowLast;
            if (lex.kind == Lexer.BAR) {
                lex.advance();
                exp(0);
                p.aim(p.emit(Op.JUMP_FALSE, 0), last);
            }
            expect(Lexer.COLON);
            exp(0);
            p.emit(Op.GATHER_SET + tuple, 0);
            p.aim(p.emit(Op.JUMP, 0), last);
            p.code[first + 1] = p.size - first;
            clear(slots);
            p.emit(Op.GATHERED_SET + tuple, 0);
            p.names = names;
        }

        private void clear(int slots) {
            p.emit(Op.CLEAR, slots);
            p.word(p.passing - slots);
            p.passing = slots;
        }

        private void quantifier() {
            boolean exists = lex.kind == Lexer.EXISTS;
            opens();
            int names = p.names;
            int slots = p.passing;
            iters(false);
            int first = rowFirst;
            int last = rowLast;
            expect(Lexer.BAR);
            exp(0);
            open--;
            p.aim(p.emit(exists ? Op.JUMP_FALSE : Op.JUMP_TRUE, 0), last);
            push(truth(exists));
            int over = p.emit(Op.JUMP, 0);
            p.code[first + 1] = p.size - first;
            push(truth(!exists));
            p.aim(over, p.size);
            clear(slots);
            p.emit(Op.GIVE, 0);
            p.names = names;
        }

        private void choice() {
            opens();
            exp(0);
            expect(Lexer.THEN);
            int otherwise = p.emit(Op.JUMP_FALSE, 0);
            exp(0);
            int ends = p.emit(Op.JUMP, 0);
            p.aim(otherwise, p.size);
            for (int i = 0; i <= MOST_TAPE && lex.kind == Lexer.ELSEIF; i++) {
                lex.advance();
                exp(0);
                expect(Lexer.THEN);
                otherwise = p.emit(Op.JUMP_FALSE, 0);
                exp(0);
                ends = p.emit(Op.JUMP, ends);
                p.aim(otherwise, p.size);
            }
            expect(Lexer.ELSE);
            exp(0);
            closes(Lexer.END);
            aimAll(ends);
        }

        /** newat, or a word with ( exp ). */
        private void word() {
            int kind = lex.kind;
            boolean drawn = kind == Lexer.RANDOM && allowed >= RANDOM_ONLY;
            if (kind == Lexer.NEWAT && allowed == ALL) {
                lex.advance();
                p.emit(Op.NEW_ATOM, 0);
                return;
            }
            int op = wordOp(kind);
            if (op == NONE && !drawn) {
                refuse(2, lex.start);
            }
            lex.advance();
            want(Lexer.ROUND);
            opens();
            exp(0);
            closes(Lexer.ROUND_END);
            p.emit(drawn ? Op.RANDOM : op, 0);
        }

        private static int wordOp(int kind) {
            if (kind >= Lexer.ABS && kind <= Lexer.CODE) {
                return Op.ABS + kind - Lexer.ABS;
            }
            return kind == Lexer.REV ? Op.REV : NONE;
        }

        // ------------------------------------------------ iters

        /**
         * A row of iters: the innermost one's member is in its names behind it. rowFirst is the NEXT whose
         * end is still to be told, rowLast the one that the next turn begins with. Of a for's iters the
         * marks keep what is to be cleared: slot, first name, how many names.
         */
        private void iters(boolean counted) {
            int row = p.names;
            int first = NONE;
            int last = NONE;
            boolean more = true;
            for (int i = 0; i <= MOST_TAPE && more; i++) {
                int names = p.names;
                int name = counted ? p.frames[unit] : p.passing;
                boolean several = lex.kind == Lexer.SQUARE;
                iterNames(row, several, counted);
                int count = p.names - names;
                expect(Lexer.IN);
                exp(LEVEL_SUM);
                int slot = counted ? p.newSlots(unit, 2) : p.newPassing(2);
                p.emit(counted ? Op.FOR_ITER : Op.ITER, slot);
                int next = p.emit(counted ? Op.FOR_NEXT : Op.NEXT, slot);
                p.word(last - next);
                first = first == NONE ? next : first;
                last = next;
                iterStore(name, several ? count : 0, counted);
                for (int k = names; k < p.names; k++) {
                    p.hidden[k] = false;
                }
                if (counted) {
                    mark(slot);
                    mark(name);
                    mark(count);
                }
                more = lex.kind == Lexer.COMMA;
                if (more) {
                    lex.advance();
                }
            }
            rowFirst = first;
            rowLast = last;
        }

        private void iterStore(int name, int several, boolean counted) {
            if (several == 0) {
                p.emit(counted ? Op.FOR_NAME : Op.NAME, name);
            } else {
                p.emit(counted ? Op.FOR_NAMES : Op.NAMES, name);
                p.word(several);
            }
        }

        /** Names of an iter are not to be seen before the iters behind it. */
        private void iterNames(int row, boolean several, boolean counted) {
            if (several) {
                opens();
            }
            boolean more = true;
            for (int i = 0; i <= MOST_VARIABLES && more; i++) {
                checkName(row);
                p.counted[unit] += counted ? 1 : 0;
                int slot = counted ? p.newSlots(unit, 1) : p.newPassing(1);
                p.tell(lex.high, lex.low, counted ? Program.VARIABLE : Program.PASSING, unit, slot);
                p.hidden[p.names - 1] = true;
                lex.advance();
                more = several && lex.kind == Lexer.COMMA;
                if (more) {
                    lex.advance();
                }
            }
            if (several) {
                closes(Lexer.SQUARE_END);
            }
        }
    }

    // ---------------------------------------------------------------- runs

    /** What a run is, besides its stack, points and output. */
    private static final class Run {
        private int pc;
        private int fp;
        private int sp;
        private int begun;
        private int place;
        private int work;
        private int error;
        private int ended;
        private int calls;
        // TOTAL without points, the part of it that is the innermost call's, and that of points.
        private int total;
        private int local;
        private int pointTotal;
        private int points;
        private int pointTop;
        private int atoms;
        private int printed;
        private long seed;

        void copyFrom(Run other) {
            pc = other.pc;
            fp = other.fp;
            sp = other.sp;
            begun = other.begun;
            place = other.place;
            work = other.work;
            error = other.error;
            ended = other.ended;
            calls = other.calls;
            total = other.total;
            local = other.local;
            pointTotal = other.pointTotal;
            points = other.points;
            pointTop = other.pointTop;
            atoms = other.atoms;
            printed = other.printed;
            seed = other.seed;
        }
    }

    /**
     * A run as it stood before some of its statements, so that going back need not do all again: up to
     * eight at like distances (wider ones as it goes on), and one near the place where a call was to end.
     * They share one row, and none is kept that it has no room for.
     */
    private static final class Saves {
        private static final int MOST = 8;
        private static final int NEAR = MOST;
        private static final int FIRST_GAP = 256;
        private static final int NEARNESS = 32;
        // All that the eight keep in the heap.
        private static final int MOST_WEIGHT = 60000;
        private static final int FULL_ROW = 20000;

        private final Run[] runs = new Run[MOST + 1];
        // Of each one its stack, then its points; the near one behind the others.
        private int[] row = new int[1024];
        private final int[] starts = new int[MOST + 1];
        // How much of the row the eight have.
        private int filled;
        private int saved;
        private boolean near;
        // Never less than the first one.
        private int gap = FIRST_GAP;
        private int nextAt;
        private int nearAt;

        Saves() {
            for (int i = 0; i < runs.length; i++) {
                runs[i] = new Run();
            }
        }

        void empty() {
            drop();
            gap = FIRST_GAP;
            nextAt = gap;
            nearAt = NONE;
        }

        /** Where room is scarce it can do without them. */
        void drop() {
            filled = 0;
            saved = 0;
            near = false;
        }

        /** So many statements are to be done. */
        void expect(int begun, int statements) {
            nearAt = statements > 2 * NEARNESS ? begun + statements - NEARNESS : NONE;
        }

        /** The newest one that is not beyond a statement, or NONE. */
        int newest(int begun) {
            int at = near && runs[NEAR].begun <= begun ? NEAR : NONE;
            for (int i = 0; i < saved; i++) {
                if (runs[i].begun <= begun && (at == NONE || runs[i].begun > runs[at].begun)) {
                    at = i;
                }
            }
            return at;
        }

        private boolean isRoomFor(Run run) {
            int weight = run.total + run.pointTotal;
            for (int i = 0; i < saved; i++) {
                weight = weight + runs[i].total + runs[i].pointTotal;
            }
            return filled + run.sp + run.pointTop <= FULL_ROW && weight <= MOST_WEIGHT;
        }

        /** One more of the eight, where the near one was. */
        void add(Run run, int[] stack, int[] points) {
            near = false;
            for (int i = 0; i < 30 && saved > 0 && (saved == MOST || !isRoomFor(run)); i++) {
                thinOut();
            }
            int wide = Math.max(gap, FIRST_GAP);
            nextAt = (run.begun / wide + 1) * wide;
            if (run.begun % wide == 0 && isRoomFor(run)) {
                store(saved, run, stack, points);
                filled = filled + run.sp + run.pointTop;
                saved++;
            }
        }

        void addNear(Run run, int[] stack, int[] points) {
            near = filled + run.sp + run.pointTop <= FULL_ROW;
            if (near) {
                store(NEAR, run, stack, points);
            }
        }

        private void store(int at, Run run, int[] stack, int[] points) {
            row = widened(row, filled + run.sp + run.pointTop, FULL_ROW);
            starts[at] = filled;
            runs[at].copyFrom(run);
            System.arraycopy(stack, 0, row, filled, run.sp);
            System.arraycopy(points, 0, row, filled + run.sp, run.pointTop);
        }

        private void thinOut() {
            int before = saved;
            gap = 2 * Math.max(gap, FIRST_GAP);
            filled = 0;
            saved = 0;
            for (int i = 0; i < before; i++) {
                Run run = runs[i];
                if (run.begun % Math.max(gap, FIRST_GAP) == 0) {
                    System.arraycopy(row, starts[i], row, filled, run.sp + run.pointTop);
                    runs[i] = runs[saved];
                    runs[saved] = run;
                    starts[saved] = filled;
                    filled = filled + run.sp + run.pointTop;
                    saved++;
                }
            }
        }

        /** How much of the row is in use. */
        int used() {
            return near ? filled + runs[NEAR].sp + runs[NEAR].pointTop : filled;
        }
    }

    /**
     * Does the code. The stack has the program's frame, then those of open calls, each one's slots behind
     * its head (pc and fp to go back to, unit or DEPTH, the caller's part of TOTAL), then what is being
     * worked. All on it are handles, numbers of the machine's own as raw ones, so that cells can move.
     */
    private static final class Machine {
        private static final int HEAD = 4;
        private static final int POINT_TAIL = 6;
        // Frames of the program and of open calls (each variable may be a for's, with two slots more), those
        // of funcs, and what is being worked: funcs open 60 of the kinds that are counted at the most, twenty
        // of these for themselves; each of the others may be a row of a thousand, if the text goes so far.
        private static final int FULL_STACK = 91000;
        // Points' variables and what their fors go over are in TOTAL, and each slot is one of it at least.
        private static final int FULL_POINTS = MOST_TOTAL + MOST_POINTS * (HEAD * (MOST_CALLS + 1) + POINT_TAIL);
        private static final long FOREVER = 1L << 62;
        private static final long SEED_FACTOR = 6364136223846793005L;
        private static final long SEED_STEP = 1442695040888963407L;

        private final Heap heap;
        private final Wholes wholes;
        private final Algebra algebra;
        private final Printer printer;
        // Values that outlive runs: what is shown, what views have.
        private final int[] kept;
        private final Run run = new Run();
        private Program program;
        private int[] stack = new int[1024];
        private int[] points = new int[512];
        private byte[] output = new byte[1024];
        // Slots of the exp's iters, then those of open funcs' exps; none is in use between statements.
        private final int[] passing = new int[(MOST_FUNCS + 1) * MOST_PASSING];
        private int passingBase;
        private boolean halted;
        private int trouble;
        private int left;
        private int funcs;
        private int depths;
        private long firstSeed;
        private final Saves saves = new Saves();
        private int workDone;

        Machine(Heap heap, Wholes wholes, Algebra algebra, Printer printer, int[] kept) {
            this.heap = heap;
            this.wholes = wholes;
            this.algebra = algebra;
            this.printer = printer;
            this.kept = kept;
        }

        // ------------------------------------------------ what the house asks

        void open(Program of, long seed) {
            program = of;
            firstSeed = seed;
            saves.empty();
            restart();
        }

        private void restart() {
            run.pc = program.entry;
            run.fp = 0;
            run.sp = 0;
            run.begun = 0;
            run.place = NONE;
            run.work = 0;
            run.error = 0;
            run.ended = 0;
            run.calls = 0;
            run.total = program.counted[0];
            run.local = 0;
            run.pointTotal = 0;
            run.points = 0;
            run.pointTop = 0;
            run.atoms = 0;
            run.printed = 0;
            run.seed = firstSeed;
            pushAll(RAW_TAG, HEAD);
            pushAll(OM, program.frames[0]);
        }

        /** So many statements at most; then it stands where the next one would be begun. */
        void advance(int statements) {
            if (program == null || run.ended != 0) {
                return;
            }
            left = statements;
            saves.expect(run.begun, statements);
            execute();
            if (trouble != 0) {
                Arrays.fill(passing, OM);
                run.error = trouble;
                run.ended = 2;
                // Behind an error only the program's variables can be asked for.
                run.fp = 0;
                run.sp = HEAD + program.frames[0];
            }
        }

        /** The run is as it was at a statement from which it may go on to this one: how many are between. */
        int goBack(int begun) {
            int at = saves.newest(begun);
            if (at == NONE) {
                restart();
                return begun;
            }
            run.copyFrom(saves.runs[at]);
            System.arraycopy(saves.row, saves.starts[at], stack, 0, run.sp);
            System.arraycopy(saves.row, saves.starts[at] + run.sp, points, 0, run.pointTop);
            return begun - run.begun;
        }

        /** An exp's value, or its error as a raw number; workDone is its WORK. */
        int evaluate(int entry) {
            int pc = run.pc;
            int fp = run.fp;
            int sp = run.sp;
            int work = run.work;
            long seed = run.seed;
            run.fp = sp;
            run.pc = entry;
            run.work = 0;
            pushAll(RAW_TAG, HEAD);
            execute();
            int answer = stack[run.sp - 1];
            if (trouble != 0) {
                Arrays.fill(passing, OM);
                answer = raw(trouble);
            }
            workDone = run.work;
            run.pc = pc;
            run.fp = fp;
            run.sp = sp;
            run.work = work;
            run.seed = seed;
            return answer;
        }

        int global(int slot) {
            return stack[HEAD + slot];
        }

        void makeRoom() {
            if (!heap.isTight()) {
                return;
            }
            moveAll();
            heap.widen();
            if (heap.isScarce() && saves.used() > 0) {
                saves.drop();
                moveAll();
            }
        }

        private void moveAll() {
            heap.beginMarking();
            heap.markRow(stack, run.sp);
            heap.markRow(passing, passing.length);
            heap.markRow(points, run.pointTop);
            heap.markRow(kept, kept.length);
            heap.markRow(saves.row, saves.used());
            heap.endMarking();
            heap.moveRow(stack, run.sp);
            heap.moveRow(passing, passing.length);
            heap.moveRow(points, run.pointTop);
            heap.moveRow(kept, kept.length);
            heap.moveRow(saves.row, saves.used());
            heap.moveCells();
        }

        // ------------------------------------------------ the instructions

        private void beginWork() {
            halted = false;
            trouble = 0;
            funcs = 0;
            depths = 0;
            passingBase = 0;
        }

        private void execute() {
            beginWork();
            int[] code = program.code;
            for (long turn = 0; turn < FOREVER && !halted; turn++) {
                if (heap.isTight()) {
                    makeRoom();
                }
                int at = run.pc;
                if (at < 0 || at >= code.length) {
                    return;
                }
                run.pc = at + 1;
                int op = code[at] & 255;
                int number = code[at] >> 8;
                switch (op >> 4) {
                    case 0:
                        flow(op, number, at);
                        break;
                    case 1:
                        callsAndPoints(op, number);
                        break;
                    case 2:
                        data(op, number, at);
                        break;
                    case 3:
                        makeValue(op, number);
                        break;
                    case 4:
                        iterate(op, number, at);
                        break;
                    case 5:
                        gather(op, number);
                        break;
                    case 6:
                        partly(op, number, at);
                        break;
                    case 7:
                        foldOn(op, number, at);
                        break;
                    case 8:
                        run.sp--;
                        replace(algebra.binary(op, stack[run.sp - 1], stack[run.sp]));
                        break;
                    case 10:
                        replace(algebra.unary(op, stack[run.sp - 1]));
                        break;
                    case 11:
                        read(op == Op.READ ? run.fp + HEAD + number : HEAD + number, at);
                        break;
                    case 12:
                        write(op == Op.WRITE ? run.fp + HEAD + number : HEAD + number, at, op == Op.WRITE);
                        break;
                    default:
                        print(number);
                        break;
                }
            }
        }

        private void fail(int error) {
            trouble = error;
            halted = true;
        }

        private void spend(int n) {
            run.work = run.work + n;
            if (run.work > MOST_WORK) {
                trouble = 11;
                halted = true;
            }
        }

        private void push(int h) {
            if (run.sp < stack.length || isRoomFor(1)) {
                stack[run.sp] = h;
                run.sp++;
            }
        }

        private void pushAll(int h, int n) {
            if (isRoomFor(n)) {
                for (int i = 0; i < n; i++) {
                    stack[run.sp + i] = h;
                }
                run.sp = run.sp + n;
            }
        }

        /** It always is when the stack has its full length. */
        private boolean isRoomFor(int n) {
            stack = widened(stack, run.sp + n, FULL_STACK);
            if (run.sp + n > stack.length) {
                trouble = 6;
                halted = true;
                return false;
            }
            return true;
        }

        private int pop() {
            run.sp--;
            return stack[run.sp];
        }

        /** What is given, in the place of the stack's top. */
        private void replace(int h) {
            if (isError(h)) {
                fail(h & 15);
            } else {
                stack[run.sp - 1] = h;
                spend(heap.size(h));
            }
        }

        private void give(int h) {
            push(OM);
            replace(h);
        }

        private boolean wantTruth(int h) {
            if (h != TRUE && h != FALSE) {
                fail(9);
                return false;
            }
            return true;
        }

        private void flow(int op, int number, int at) {
            switch (op) {
                case Op.BEGIN:
                    if (left > 0 && (run.begun == saves.nearAt || run.begun == saves.nextAt)) {
                        save(at);
                    }
                    beginStatement(number, at);
                    break;
                case Op.END:
                case Op.STOP:
                    run.ended = 1;
                    halted = true;
                    break;
                case Op.JUMP:
                    run.pc = at + number;
                    break;
                case Op.JUMP_FALSE:
                case Op.JUMP_TRUE:
                    int h = pop();
                    if (wantTruth(h) && (h == TRUE) == (op == Op.JUMP_TRUE)) {
                        run.pc = at + number;
                    }
                    break;
                case Op.AND_JUMP:
                case Op.OR_JUMP:
                    shortcut(op == Op.OR_JUMP ? TRUE : FALSE, at + number);
                    break;
                case Op.TRUTH:
                    if (wantTruth(stack[run.sp - 1])) {
                        spend(1);
                    }
                    break;
                case Op.NOT:
                    if (wantTruth(stack[run.sp - 1])) {
                        replace(truth(stack[run.sp - 1] == FALSE));
                    }
                    break;
                default:
                    halted = true;
                    break;
            }
        }

        private void shortcut(int telling, int to) {
            int h = stack[run.sp - 1];
            if (!wantTruth(h)) {
                return;
            }
            if (h == telling) {
                run.pc = to;
                spend(1);
            } else {
                run.sp--;
            }
        }

        private void beginStatement(int place, int at) {
            if (left == 0) {
                run.pc = at;
                halted = true;
                return;
            }
            left--;
            run.begun++;
            run.place = place;
            run.work = 0;
        }

        private void save(int at) {
            int pc = run.pc;
            run.pc = at;
            if (run.begun == saves.nextAt) {
                saves.add(run, stack, points);
            }
            if (run.begun == saves.nearAt) {
                saves.addNear(run, stack, points);
            }
            run.pc = pc;
        }

        private void callsAndPoints(int op, int number) {
            switch (op) {
                case Op.FRAME:
                    pushAll(RAW_TAG, HEAD);
                    break;
                case Op.CALL_FUNC:
                    callFunc(number);
                    break;
                case Op.END_FUNC:
                    endFunc();
                    break;
                case Op.CALL_PROC:
                    callProc(number);
                    break;
                case Op.END_PROC:
                    endProc();
                    break;
                case Op.POINT:
                    makePoint();
                    break;
                case Op.ASSERT:
                    int h = pop();
                    if (wantTruth(h) && h == FALSE) {
                        fail(8);
                    }
                    break;
                default:
                    leavePoint(op == Op.FAIL);
                    break;
            }
        }

        // ------------------------------------------------ calls and points

        private void callFunc(int func) {
            int depth = program.code[run.pc] & 255;
            int passed = program.code[run.pc] >> 8;
            if (funcs >= MOST_FUNCS || depths + depth > MOST_DEPTHS) {
                fail(7);
                return;
            }
            funcs++;
            depths = depths + depth;
            passingBase = passingBase + passed;
            enter(func, run.pc + 1, depth, passed);
        }

        /** The frame whose head and params are upon the stack becomes the one in use. */
        private void enter(int unit, int back, int note, int caller) {
            int frame = run.sp - program.params[unit] - HEAD;
            stack[frame] = raw(back);
            stack[frame + 1] = raw(run.fp);
            stack[frame + 2] = raw(note);
            stack[frame + 3] = raw(caller);
            run.fp = frame;
            pushAll(OM, program.frames[unit] - program.params[unit]);
            run.pc = program.entries[unit];
        }

        private void endFunc() {
            int h = pop();
            int frame = run.fp;
            funcs--;
            depths = depths - unraw(stack[frame + 2]);
            passingBase = passingBase - unraw(stack[frame + 3]);
            run.pc = unraw(stack[frame]);
            run.fp = unraw(stack[frame + 1]);
            run.sp = frame;
            give(h);
        }

        private void callProc(int proc) {
            if (run.calls >= MOST_CALLS) {
                fail(7);
                return;
            }
            int params = program.params[proc];
            int more = program.counted[proc] - params;
            for (int i = run.sp - params; i < run.sp; i++) {
                more = more + heap.size(stack[i]);
            }
            if (run.total + more + run.pointTotal > MOST_TOTAL) {
                fail(6);
                return;
            }
            enter(proc, run.pc, proc, run.local);
            run.calls++;
            run.total = run.total + more;
            run.local = more;
        }

        /** Behind it the call's value and its params are upon the stack, for the targets. */
        private void endProc() {
            int h = pop();
            int frame = run.fp;
            int params = program.params[unraw(stack[frame + 2])];
            run.pc = unraw(stack[frame]);
            run.fp = unraw(stack[frame + 1]);
            run.calls--;
            run.total = run.total - run.local;
            run.local = unraw(stack[frame + 3]);
            stack[frame] = h;
            for (int i = 1; i <= params; i++) {
                stack[frame + i] = stack[frame + HEAD - 1 + i];
            }
            run.sp = frame + 1 + params;
        }

        private void makePoint() {
            if (run.points >= MOST_POINTS || run.total + run.total + run.pointTotal > MOST_TOTAL) {
                fail(6);
                return;
            }
            int top = run.pointTop;
            points = widened(points, top + run.sp + POINT_TAIL, FULL_POINTS);
            if (top + run.sp + POINT_TAIL > points.length) {
                fail(6);
                return;
            }
            System.arraycopy(stack, 0, points, top, run.sp);
            top = top + run.sp;
            points[top] = raw(run.pc);
            points[top + 1] = raw(run.fp);
            points[top + 2] = raw(run.sp);
            points[top + 3] = raw(run.calls);
            points[top + 4] = raw(run.total);
            points[top + 5] = raw(run.local);
            run.pointTop = top + POINT_TAIL;
            run.points++;
            run.pointTotal = run.pointTotal + run.total;
            push(TRUE);
        }

        /** The newest point goes; all is as it was then, if so wished. */
        private void leavePoint(boolean back) {
            if (run.points == 0) {
                fail(10);
                return;
            }
            int tail = run.pointTop - POINT_TAIL;
            int sp = unraw(points[tail + 2]);
            int total = unraw(points[tail + 4]);
            run.points--;
            run.pointTotal = run.pointTotal - total;
            run.pointTop = tail - sp;
            if (back) {
                run.pc = unraw(points[tail]);
                run.fp = unraw(points[tail + 1]);
                run.sp = sp;
                run.calls = unraw(points[tail + 3]);
                run.total = total;
                run.local = unraw(points[tail + 5]);
                System.arraycopy(points, tail - sp, stack, 0, sp);
                push(FALSE);
            }
        }

        private void print(int n) {
            for (int i = run.sp - n; i < run.sp; i++) {
                boolean again = i > run.sp - n && stack[i] == stack[i - 1];
                // What is counted but not kept can be far more than there is time to write.
                if (run.printed >= MOST_KEPT && heap.kind(stack[i]) == KIND_STRING) {
                    countOut(heap.length(stack[i]) + 1);
                } else if (run.printed >= MOST_KEPT && again) {
                    countOut(printer.length);
                } else {
                    printer.printPlain(stack[i]);
                    printer.put(i < run.sp - 1 ? ' ' : 10);
                    putOut();
                }
            }
            run.sp = run.sp - n;
        }

        /** What the printer has, as far as it is kept and counted. */
        private void putOut() {
            int n = Math.min(printer.length, MOST_KEPT - run.printed);
            if (n > 0) {
                output = widenedBytes(output, run.printed + n, MOST_KEPT);
                System.arraycopy(printer.text, 0, output, run.printed, n);
            }
            countOut(printer.length);
        }

        private void countOut(int bytes) {
            run.printed = Math.min(run.printed + bytes, MOST_COUNTED);
        }

        // ------------------------------------------------ the stack

        private void data(int op, int number, int at) {
            switch (op) {
                case Op.PUSH:
                    push(program.code[at + 1]);
                    run.pc = at + 2;
                    break;
                case Op.LITERAL:
                    give(program.code[at + 1]);
                    run.pc = at + 2;
                    break;
                case Op.LITERAL_CELL:
                    give(heap.makeCopy(program.code, at + 1, number));
                    run.pc = at + 1 + number;
                    break;
                case Op.LOAD:
                    push(stack[run.fp + HEAD + number]);
                    break;
                case Op.LOAD_GLOBAL:
                    push(stack[HEAD + number]);
                    break;
                case Op.DROP:
                    run.sp = run.sp - number;
                    break;
                case Op.PICK:
                    push(stack[run.sp - 1 - number]);
                    break;
                case Op.LOAD_PASSING:
                    push(passing[passingBase + number]);
                    break;
                case Op.OPEN:
                    pushAll(OM, number);
                    break;
                case Op.SWAP:
                    int h = stack[run.sp - 1];
                    stack[run.sp - 1] = stack[run.sp - 2];
                    stack[run.sp - 2] = h;
                    break;
                default:
                    spend(heap.size(stack[run.sp - 1]));
                    break;
            }
        }

        private void makeValue(int op, int number) {
            switch (op) {
                case Op.MAKE_SET:
                    run.sp = run.sp - number;
                    give(algebra.setOf(stack, run.sp, number));
                    break;
                case Op.MAKE_TUPLE:
                    run.sp = run.sp - number;
                    give(heap.makeTuple(stack, run.sp, number));
                    break;
                case Op.SPAN_SET:
                case Op.SPAN_TUPLE:
                    run.sp--;
                    replace(algebra.progression(stack[run.sp - 1], OM, stack[run.sp], op == Op.SPAN_SET));
                    break;
                case Op.STEPS_SET:
                case Op.STEPS_TUPLE:
                    run.sp = run.sp - 2;
                    int second = stack[run.sp];
                    // om stands for none where it is asked for a row with two ends.
                    replace(second == OM ? ERROR_KIND
                            : algebra.progression(stack[run.sp - 1], second, stack[run.sp + 1], op == Op.STEPS_SET));
                    break;
                case Op.NEW_ATOM:
                    newAtom();
                    break;
                default:
                    replace(drawn(stack[run.sp - 1]));
                    break;
            }
        }

        private void fold() {
            int row = stack[run.sp - 1];
            if (heap.kind(row) < KIND_TUPLE) {
                fail(1);
            } else if (heap.length(row) == 0) {
                replace(OM);
                run.pc++;
            } else {
                push(heap.member(row, 0));
                push(raw(1));
            }
        }

        /** One member more, and this instruction again; or the answer. */
        private void foldOn(int op, int way, int at) {
            if (op == Op.FOLD) {
                fold();
                return;
            }
            int next = unraw(stack[run.sp - 1]);
            int sofar = stack[run.sp - 2];
            int row = stack[run.sp - 3];
            if (next >= heap.length(row)) {
                run.sp = run.sp - 2;
                replace(sofar);
                return;
            }
            int x = heap.member(row, next);
            int h = way == 0 ? algebra.sum(sofar, x) : way == 1 ? algebra.product(sofar, x)
                    : algebra.larger(sofar, x, way == 3);
            if (isError(h)) {
                fail(h & 15);
                return;
            }
            stack[run.sp - 2] = h;
            stack[run.sp - 1] = raw(next + 1);
            run.pc = at;
            if (way <= 1) {
                spend(heap.size(h));
            }
        }

        private void newAtom() {
            if (run.atoms >= MOST_ATOMS) {
                fail(6);
                return;
            }
            run.atoms++;
            give(ATOM_TAG | run.atoms);
        }

        private int drawn(int from) {
            int kind = heap.kind(from);
            if (kind >= KIND_STRING) {
                int n = heap.length(from);
                return n == 0 ? OM : heap.taken(from, nextDraw(n));
            }
            if (kind != KIND_WHOLE) {
                return ERROR_KIND;
            }
            int n = from < 0 ? Wholes.number(from) : heap.length(from) == 1 ? heap.mem[from + 1] : 0;
            if (n < 1 || wholes.isBelow(from)) {
                return ERROR_PLACE;
            }
            return wholes.of(1L + nextDraw(n));
        }

        private int nextDraw(int n) {
            run.seed = run.seed * SEED_FACTOR + SEED_STEP;
            return n > 0 ? (int) ((run.seed >>> 33) % n) : 0;
        }

        // ------------------------------------------------ iters

        private void iterate(int op, int number, int at) {
            boolean counted = op >= Op.FOR_ITER;
            int[] in = counted ? stack : passing;
            int slot = (counted ? run.fp + HEAD : passingBase) + number;
            switch (op) {
                case Op.ITER:
                case Op.FOR_ITER:
                    goOver(in, slot, counted);
                    break;
                case Op.NEXT:
                case Op.FOR_NEXT:
                    nextMember(in, slot, at, counted);
                    break;
                case Op.NAME:
                    in[slot] = pop();
                    break;
                case Op.FOR_NAME:
                    assign(slot, pop(), true);
                    break;
                case Op.NAMES:
                case Op.FOR_NAMES:
                    spread(in, slot, program.code[at + 1], counted);
                    run.pc = at + 2;
                    break;
                case Op.CLEAR:
                    for (int i = program.code[at + 1]; i > 0; i--) {
                        in[slot + i - 1] = OM;
                    }
                    run.pc = at + 2;
                    break;
                default:
                    clearFor(slot, run.fp + HEAD + program.code[at + 1], program.code[at + 2]);
                    run.pc = at + 3;
                    break;
            }
        }

        private void goOver(int[] in, int slot, boolean counted) {
            int row = pop();
            if (heap.kind(row) < KIND_STRING) {
                fail(1);
                return;
            }
            if (counted) {
                int size = heap.size(row);
                if (run.total + size + run.pointTotal > MOST_TOTAL) {
                    fail(6);
                    return;
                }
                run.total = run.total + size;
                run.local = run.local + size;
            }
            in[slot] = row;
            in[slot + 1] = raw(0);
        }

        private void nextMember(int[] in, int slot, int at, boolean counted) {
            int row = in[slot];
            int next = unraw(in[slot + 1]);
            if (next >= heap.length(row)) {
                letGo(in, slot, counted);
                run.pc = at + program.code[at + 1];
                return;
            }
            in[slot + 1] = raw(next + 1);
            push(heap.taken(row, next));
            run.pc = at + 2;
            spend(1);
        }

        private void letGo(int[] in, int slot, boolean counted) {
            if (counted && in[slot] != OM) {
                int size = heap.size(in[slot]);
                run.total = run.total - size;
                run.local = run.local - size;
            }
            in[slot] = OM;
            in[slot + 1] = OM;
        }

        private void spread(int[] in, int slot, int names, boolean counted) {
            int row = pop();
            if (heap.kind(row) != KIND_TUPLE || heap.length(row) > names) {
                fail(1);
                return;
            }
            for (int i = 0; i < names && trouble == 0; i++) {
                if (counted) {
                    assign(slot + i, heap.member(row, i), true);
                } else {
                    in[slot + i] = heap.member(row, i);
                }
            }
        }

        private void clearFor(int slot, int name, int names) {
            letGo(stack, slot, true);
            for (int i = name; i < name + names; i++) {
                assign(i, OM, true);
            }
        }

        /** A variable that TOTAL counts gets a value. */
        private void assign(int slot, int h, boolean local) {
            int more = heap.size(h) - heap.size(stack[slot]);
            if (more > 0 && run.total + more + run.pointTotal > MOST_TOTAL) {
                fail(6);
                return;
            }
            run.total = run.total + more;
            run.local = local ? run.local + more : run.local;
            stack[slot] = h;
        }

        /**
         * A former's members lie upon the stack, above them how many they are and the size of all. A size
         * beyond all values says that there are too many: no more are kept then, and it errs at its end.
         * A long row (number is not 0) likewise, but om among a set's members errs at its end, too.
         */
        private void gather(int op, int number) {
            switch (op) {
                case Op.GATHER:
                    push(raw(0));
                    push(raw(1));
                    break;
                case Op.JOIN_SET:
                    joinSet(number);
                    break;
                case Op.JOIN_TUPLE:
                    joinTuple(number);
                    break;
                case Op.GATHER_SET:
                    gatherIntoSet(pop(), number != 0);
                    break;
                case Op.GATHER_TUPLE:
                    gatherIntoTuple(pop());
                    break;
                default:
                    gathered(op == Op.GATHERED_SET);
                    break;
            }
        }

        private void gathered(boolean set) {
            int n = unraw(stack[run.sp - 2]);
            int size = unraw(stack[run.sp - 1]);
            int members = run.sp - 2 - n;
            run.sp = members;
            // om is the first of all in the order.
            if (set && n > 0 && stack[members] == OM) {
                fail(3);
            } else if (size > 2 * MOST_SIZE) {
                fail(5);
            } else {
                give(set ? heap.makeRow(KIND_SET, stack, members, n) : heap.makeTuple(stack, members, n));
            }
        }

        /** The first members of a long row, which lie upon the stack by themselves, become gathered ones. */
        private void joinSet(int members) {
            int start = run.sp - members;
            int n = 0;
            int size = 1;
            boolean om = false;
            for (int i = start; i < start + members; i++) {
                int h = stack[i];
                om = om || h == OM;
                if (size <= MOST_SIZE && algebra.insert(stack, start, n, start + n, h)) {
                    n++;
                    size = size + heap.size(h);
                }
            }
            stack[start] = om ? OM : stack[start];
            run.sp = start + n;
            push(raw(n));
            push(raw(size > MOST_SIZE ? 3 * MOST_SIZE : size));
        }

        private void joinTuple(int members) {
            int size = 1;
            boolean great = false;
            for (int i = run.sp - members; i < run.sp; i++) {
                size = size + heap.size(stack[i]);
                great = great || (stack[i] != OM && size > MOST_SIZE);
            }
            push(raw(members));
            push(raw(great ? 3 * MOST_SIZE : size));
        }

        private void gatherIntoSet(int h, boolean row) {
            int n = unraw(stack[run.sp - 2]);
            int size = unraw(stack[run.sp - 1]);
            if (h == OM && !row) {
                fail(3);
                return;
            }
            if (size > MOST_SIZE) {
                int first = run.sp - 2 - n;
                stack[first] = h == OM ? h : stack[first];
                return;
            }
            push(OM);
            run.sp--;
            if (algebra.insert(stack, run.sp - 2 - n, n, run.sp, h)) {
                run.sp++;
                stack[run.sp - 2] = raw(n + 1);
                stack[run.sp - 1] = raw(size + heap.size(h) > MOST_SIZE ? 3 * MOST_SIZE : size + heap.size(h));
            }
        }

        /** oms at the end are not there: only what comes behind them makes the value too great. */
        private void gatherIntoTuple(int h) {
            int n = unraw(stack[run.sp - 2]);
            int size = unraw(stack[run.sp - 1]);
            if (size > 2 * MOST_SIZE || (h == OM && n >= MOST_SIZE)) {
                return;
            }
            int all = size + heap.size(h);
            if (h != OM && (all > MOST_SIZE || n >= MOST_SIZE)) {
                stack[run.sp - 1] = raw(3 * MOST_SIZE);
                return;
            }
            int last = stack[run.sp - 1];
            stack[run.sp - 2] = h;
            stack[run.sp - 1] = raw(n + 1);
            push(last);
            stack[run.sp - 1] = raw(all);
        }

        // ------------------------------------------------ parts and targets

        private void partly(int op, int number, int at) {
            switch (op) {
                case Op.PART_ONE:
                case Op.PART_ALL:
                    run.sp--;
                    replace(algebra.part(op, stack[run.sp - 1], stack[run.sp], OM));
                    break;
                case Op.PART_ROW:
                    run.sp = run.sp - 2;
                    replace(algebra.part(op, stack[run.sp - 1], stack[run.sp], stack[run.sp + 1]));
                    break;
                case Op.MEMBER:
                    push(heap.member(stack[run.sp - 1], number));
                    break;
                case Op.WANT_TUPLE:
                    if (heap.kind(stack[run.sp - 1]) != KIND_TUPLE) {
                        fail(1);
                    }
                    break;
                default:
                    takeFrom(number, at);
                    break;
            }
        }

        private void read(int slot, int at) {
            int value = run.sp - program.code[at + 1];
            int parts = program.code[at + 2];
            run.pc = at + 3 + parts;
            push(stack[slot]);
            for (int i = 0; i < parts && trouble == 0; i++) {
                makeRoom();
                int kind = program.code[at + 3 + i];
                replace(algebra.part(kind, stack[run.sp - 1], stack[value], stack[value + 1]));
                value = value + (kind == Op.PART_ROW ? 2 : 1);
            }
        }

        /**
         * The stack's top is what is written. What the target's name and its parts but the last have is laid
         * above it as it is read, so that cells may move meanwhile.
         */
        private void write(int slot, int at, boolean local) {
            int top = run.sp;
            int value = top - program.code[at + 1];
            int parts = program.code[at + 2];
            run.pc = at + 3 + parts;
            push(stack[slot]);
            for (int i = 0; i < parts - 1 && trouble == 0; i++) {
                makeRoom();
                int kind = program.code[at + 3 + i];
                push(OM);
                replace(algebra.part(kind, stack[run.sp - 2], stack[value], stack[value + 1]));
                value = value + (kind == Op.PART_ROW ? 2 : 1);
            }
            push(stack[top - 1]);
            for (int i = parts - 1; i >= 0 && trouble == 0; i--) {
                makeRoom();
                int kind = program.code[at + 3 + i];
                value = i == parts - 1 ? value : value - (kind == Op.PART_ROW ? 2 : 1);
                run.sp--;
                replace(algebra.written(kind, stack[run.sp - 1], stack[value], stack[value + 1], stack[run.sp]));
            }
            if (trouble == 0) {
                assign(slot, stack[run.sp - 1], local);
            }
            run.sp = top;
        }

        private void takeFrom(int way, int at) {
            int from = stack[run.sp - 1];
            int kind = heap.kind(from);
            if (way == 0 ? kind != KIND_SET : kind != KIND_TUPLE && kind != KIND_STRING) {
                fail(1);
                return;
            }
            int n = heap.length(from);
            if (n == 0) {
                stack[run.sp - 1] = OM;
                push(OM);
                run.pc = at + program.code[at + 1];
                return;
            }
            stack[run.sp - 1] = heap.taken(from, way == 2 ? n - 1 : 0);
            run.pc = at + 2;
            give(algebra.remainder(from, way));
        }
    }

    // ---------------------------------------------------------------- the house

    // Places among the values that are kept: what is shown, what was before it, a new value, views.
    private static final int SHOWN = 0;
    private static final int SHOWN_BEFORE = 1;
    private static final int FRESH = 2;
    private static final int VIEWED = 3;

    private final Heap heap = new Heap();
    private final Wholes wholes = new Wholes(heap);
    private final Printer printer = new Printer(heap, wholes);
    private final Algebra algebra = new Algebra(heap, wholes, printer);
    private final int[] kept = new int[VIEWED + 3 * MOST_VIEWS];
    private final Machine machine = new Machine(heap, wholes, algebra, printer, kept);
    private final Lexer lex = new Lexer();
    private final Parser parser = new Parser(lex, wholes);
    private Program current = new Program();
    // Where the next program is read, so that one with a fault leaves the current one alone.
    private Program other = new Program();
    private boolean hasProgram;
    private boolean hasRun;
    private int latestFault;
    private int views;
    private final int[] viewEntries = new int[MOST_VIEWS];
    private final boolean[] viewSeen = new boolean[MOST_VIEWS];
    private byte[] shownText = new byte[256];
    private int shownLength;
    private int shownValues;
    private int latestWork;

    public SetHouse() {
        Arrays.fill(kept, OM);
        current.emptyBehind(current);
    }

    public int feed(int a, int b, int c, int d, int e) throws UnsupportedOperationException {
        if (lex.length + 20 > MOST_TAPE) {
            throw new UnsupportedOperationException();
        }
        lex.append(a);
        lex.append(b);
        lex.append(c);
        lex.append(d);
        lex.append(e);
        return lex.length;
    }

    public void end(int n) throws IllegalArgumentException {
        if (n < 0 || n > lex.length) {
            throw new IllegalArgumentException();
        }
        lex.length = n;
    }

    public int program() {
        other.emptyBehind(current);
        boolean read = parser.readProgram(other);
        lex.length = 0;
        latestFault = parser.faultCode;
        current.code = other.code;
        if (!read) {
            return -1 - parser.faultPlace;
        }
        other.moveDown(current.size);
        Program old = current;
        current = other;
        other = old;
        hasProgram = true;
        hasRun = false;
        views = 0;
        return current.statements;
    }

    public int fault() {
        return latestFault;
    }

    public void start(long seed) throws IllegalStateException {
        if (!hasProgram) {
            throw new IllegalStateException();
        }
        hasRun = true;
        machine.open(current, seed);
        machine.advance(0);
    }

    private void wantRun() {
        if (!hasRun) {
            throw new IllegalStateException();
        }
    }

    public int step(int n) throws IllegalStateException, IllegalArgumentException {
        wantRun();
        if (n < 0 || n > MOST_STEPS) {
            throw new IllegalArgumentException();
        }
        machine.advance(n);
        return machine.run.ended;
    }

    public int back(int n) throws IllegalStateException, IllegalArgumentException {
        wantRun();
        if (n < 0 || n > machine.run.begun) {
            throw new IllegalArgumentException();
        }
        if (n > 0) {
            machine.advance(machine.goBack(machine.run.begun - n));
        }
        return machine.run.begun;
    }

    public int state(int what) throws IndexOutOfBoundsException, IllegalStateException {
        if (what < 0 || what > 9) {
            throw new IndexOutOfBoundsException();
        }
        wantRun();
        Run run = machine.run;
        switch (what) {
            case 0:
                return run.begun;
            case 1:
                return run.printed;
            case 2:
                return run.error;
            case 3:
                return run.place;
            case 4:
                return run.calls;
            case 5:
                return run.points;
            case 6:
                return run.total + run.pointTotal;
            case 7:
                return run.atoms;
            case 8:
                return run.ended;
            default:
                return run.work;
        }
    }

    public int out(int i) throws IndexOutOfBoundsException {
        if (!hasRun || i < 0 || i >= MOST_KEPT || i >= machine.run.printed || i >= machine.output.length) {
            throw new IndexOutOfBoundsException();
        }
        return machine.output[i] & 255;
    }

    /** A value is SHOWN: how many bytes it has. */
    private int showValue(int h) {
        kept[SHOWN_BEFORE] = kept[SHOWN];
        kept[SHOWN] = h;
        shownValues = Math.min(shownValues + 1, 2);
        printer.print(h);
        shownLength = printer.length;
        shownText = widenedBytes(shownText, shownLength, Printer.MOST_TEXT);
        System.arraycopy(printer.text, 0, shownText, 0, shownLength);
        return shownLength;
    }

    public int value() throws IllegalStateException, IllegalArgumentException {
        wantRun();
        lex.rewind();
        lex.advance();
        boolean name = lex.kind == Lexer.NAME && lex.start == 0 && lex.end == lex.length;
        int found = name ? current.found(lex.high, lex.low) : NONE;
        if (found == NONE || current.what[found] != Program.VARIABLE) {
            throw new IllegalArgumentException();
        }
        lex.length = 0;
        return showValue(machine.global(current.slot[found]));
    }

    public int work() throws IllegalStateException {
        wantRun();
        int size = current.size;
        boolean read = parser.readExp(current, Parser.RANDOM_ONLY);
        lex.length = 0;
        latestFault = parser.faultCode;
        latestWork = 0;
        if (!read) {
            return -100 - parser.faultPlace;
        }
        int h = machine.evaluate(size);
        current.size = size;
        latestWork = machine.workDone;
        return isError(h) ? -1 - (h & 15) : showValue(h);
    }

    public int view() throws IllegalStateException, UnsupportedOperationException {
        if (!hasProgram) {
            throw new IllegalStateException();
        }
        if (views >= MOST_VIEWS) {
            throw new UnsupportedOperationException();
        }
        int size = current.size;
        boolean read = parser.readExp(current, Parser.NOTHING_NEW);
        lex.length = 0;
        latestFault = parser.faultCode;
        if (!read) {
            return -1 - parser.faultPlace;
        }
        int at = VIEWED + 3 * views;
        viewEntries[views] = size;
        viewSeen[views] = false;
        kept[at] = OM;
        kept[at + 1] = OM;
        kept[at + 2] = OM;
        views++;
        return views - 1;
    }

    public int round() throws IllegalStateException {
        wantRun();
        int changed = 0;
        for (int v = 0; v < views; v++) {
            int h = machine.evaluate(viewEntries[v]);
            kept[FRESH] = isError(h) ? OM : h;
            machine.makeRoom();
            changed = changed + (renew(VIEWED + 3 * v) ? 1 : 0);
            kept[FRESH] = OM;
            viewSeen[v] = true;
        }
        return changed;
    }

    /** A view's value becomes the fresh one: whether it changed. */
    private boolean renew(int at) {
        int before = kept[at];
        int now = kept[FRESH];
        boolean changed = !heap.same(before, now);
        boolean sets = heap.kind(before) == KIND_SET && heap.kind(now) == KIND_SET;
        kept[at] = now;
        if (!changed) {
            kept[at + 1] = EMPTY_SET;
            kept[at + 2] = EMPTY_SET;
        } else if (sets) {
            kept[at + 1] = algebra.binary(Op.SUB, now, before);
            kept[at + 2] = algebra.binary(Op.SUB, before, now);
        } else {
            kept[at + 1] = now;
            kept[at + 2] = before;
        }
        return changed;
    }

    public int seen(int view, int which) throws IndexOutOfBoundsException, IllegalStateException {
        if (view < 0 || view >= views || which < 0 || which > 2) {
            throw new IndexOutOfBoundsException();
        }
        if (!viewSeen[view]) {
            throw new IllegalStateException();
        }
        return showValue(kept[VIEWED + 3 * view + which]);
    }

    public int shown(int i) throws IndexOutOfBoundsException {
        if (i < 0 || i >= shownLength) {
            throw new IndexOutOfBoundsException();
        }
        return shownText[i] & 255;
    }

    public int shape(int what) throws IndexOutOfBoundsException {
        if (what < 0 || what > 3) {
            throw new IndexOutOfBoundsException();
        }
        if (what == 3) {
            return latestWork;
        }
        if (shownValues == 0) {
            return 0;
        }
        int h = kept[SHOWN];
        int kind = heap.kind(h);
        switch (what) {
            case 0:
                return kind;
            case 1:
                return heap.size(h);
            default:
                return kind >= KIND_STRING ? heap.length(h) : 0;
        }
    }

    public int order() {
        return shownValues < 2 ? 0 : heap.compare(kept[SHOWN], kept[SHOWN_BEFORE]);
    }

    public int count(int what) throws IndexOutOfBoundsException {
        switch (what) {
            case 0:
                return lex.length;
            case 1:
                return current.statements;
            case 2:
                return current.variables[0];
            case 3:
                return current.procs;
            case 4:
                return views;
            default:
                throw new IndexOutOfBoundsException();
        }
    }
}
