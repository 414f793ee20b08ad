/** Each promise by hand: ordinary calls, the edges that the document names, and wrong calls. */
public final class PromiseTest {
    private static final Check CHECK = new Check("PromiseTest");
    private static final long NINES = 9999999999999999L;
    private static final long FULL = 1000000000000000L;
    private static final int ADD = 0;
    private static final int SUBTRACT = 1;
    private static final int MULTIPLY = 2;
    private static final int DIVIDE = 3;
    private static final int QUANTIZE = 4;
    private static final int LESSER = 5;
    private static final int NEXT = 6;
    private static final int[] NO_REGISTERS = {-1, 8, Integer.MIN_VALUE, Integer.MAX_VALUE};
    private static final long INFINITY = 0x7800000000000000L;
    private static final long MINUS_INFINITY = 0xF800000000000000L;
    private static final long NOTHING = 0x7C00000000000000L;

    public static void main(String[] args) {
        newObject();
        put();
        applyAndItsErrors();
        addition();
        zeroSums();
        infiniteSums();
        product();
        quotient();
        wishes();
        roundingByEachMode();
        tooGreat();
        tooSmall();
        quantize();
        lesser();
        next();
        sameRegisters();
        compare();
        kindCoefficientExponent();
        pack();
        packByDigits();
        unpack();
        mode();
        trap();
        flagsAndLower();
        sum();
        sumWithTraps();
        CHECK.end();
    }

    private interface Call {
        void made();
    }

    private static void dueThrow(String what, Class<? extends RuntimeException> want, Call call) {
        String got = "nothing";
        try {
            call.made();
        } catch (RuntimeException e) {
            got = e.getClass().getSimpleName();
        }
        CHECK.dueText(what + " throws", got, want == null ? "nothing" : want.getSimpleName());
    }

    private static void outside(String what, Call call) {
        dueThrow(what, IndexOutOfBoundsException.class, call);
    }

    private static void wrong(String what, Call call) {
        dueThrow(what, IllegalArgumentException.class, call);
    }

    private static void trapped(String what, Call call) {
        dueThrow(what, ArithmeticException.class, call);
    }

    private static void dueFinite(String what, DecimalWords x, int r, boolean minus, long c, int q) {
        CHECK.due(what + ": kind", x.kind(r), minus ? 4 : 0);
        CHECK.due(what + ": coefficient", x.coefficient(r), c);
        CHECK.due(what + ": exponent", x.exponent(r), q);
    }

    private static void dueKind(String what, DecimalWords x, int r, int kind) {
        CHECK.due(what + ": kind", x.kind(r), kind);
        CHECK.due(what + ": coefficient", x.coefficient(r), 0);
        CHECK.due(what + ": exponent", x.exponent(r), 0);
    }

    /** Registers 0 and 1 hold the numbers. */
    private static DecimalWords two(boolean minusA, long a, int qa, boolean minusB, long b, int qb) {
        DecimalWords x = new DecimalWords();
        x.put(0, minusA, a, qa);
        x.put(1, minusB, b, qb);
        return x;
    }

    private static void dueOf(DecimalWords x, int operation, boolean minus, long c, int q, int flags) {
        String what = "operation " + operation + " that gives " + c + "E" + q;
        x.lower();
        x.apply(operation, 2, 0, 1);
        dueFinite(what, x, 2, minus, c, q);
        CHECK.due(what + ": flags", x.flags(), flags);
    }

    private static void dueOf(DecimalWords x, int operation, int kind, int flags) {
        String what = "operation " + operation + " that gives kind " + kind;
        x.lower();
        x.apply(operation, 2, 0, 1);
        dueKind(what, x, 2, kind);
        CHECK.due(what + ": flags", x.flags(), flags);
    }

    private static DecimalWords special(long a, long b) {
        DecimalWords x = new DecimalWords();
        x.unpack(0, 0, a);
        x.unpack(1, 0, b);
        return x;
    }

    private static void newObject() {
        DecimalWords x = new DecimalWords();
        for (int r = 0; r < 8; r++) {
            dueFinite("a new register " + r, x, r, false, 0, 0);
        }
        CHECK.due("flags of a new object", x.flags(), 0);
        x.put(0, false, 1, 0);
        x.put(1, false, 3, 0);
        dueThrow("no trap of a new object", null, () -> x.apply(DIVIDE, 2, 0, 1));
        DecimalWords half = two(false, NINES - 1, 1, false, 5, 0);
        dueOf(half, ADD, false, NINES - 1, 1, 16);
    }

    private static void put() {
        DecimalWords x = new DecimalWords();
        x.put(7, true, NINES, 369);
        dueFinite("the greatest size", x, 7, true, NINES, 369);
        x.put(0, true, 0, -398);
        dueFinite("-0", x, 0, true, 0, -398);
        x.put(0, false, 120, -5);
        dueFinite("no zero is taken off", x, 0, false, 120, -5);
        for (int r : NO_REGISTERS) {
            outside("put in register " + r, () -> x.put(r, false, -1, 1000));
        }
        wrong("put -1", () -> x.put(0, false, -1, 0));
        wrong("put 10^16", () -> x.put(0, false, NINES + 1, 0));
        wrong("put the least long", () -> x.put(0, false, Long.MIN_VALUE, 0));
        wrong("put the greatest long", () -> x.put(0, false, Long.MAX_VALUE, 0));
        wrong("put exponent -399", () -> x.put(0, false, 1, -399));
        wrong("put exponent 370", () -> x.put(0, false, 1, 370));
        dueFinite("after wrong puts", x, 0, false, 120, -5);
        CHECK.due("flags of put", x.flags(), 0);
    }

    private static void applyAndItsErrors() {
        DecimalWords x = two(false, 1, 0, false, 0, 0);
        x.trap(31);
        for (int r : NO_REGISTERS) {
            outside("d " + r, () -> x.apply(9, r, 0, 1));
            outside("a " + r, () -> x.apply(-1, 2, r, 1));
            outside("b " + r, () -> x.apply(NEXT, 2, 0, r));
        }
        wrong("operation 7", () -> x.apply(7, 2, 0, 1));
        wrong("operation -1", () -> x.apply(-1, 2, 0, 1));
        CHECK.due("flags after wrong calls", x.flags(), 0);
        dueFinite("d after wrong calls", x, 2, false, 0, 0);
        trapped("1 / 0", () -> x.apply(DIVIDE, 2, 0, 1));
        CHECK.due("flags after a trap", x.flags(), 2);
        dueFinite("d after a trap", x, 2, false, 0, 0);
    }

    private static void addition() {
        dueOf(two(false, 123, -2, false, 77, -1), ADD, false, 893, -2, 0);
        dueOf(two(false, 123, -2, false, 77, -1), SUBTRACT, true, 647, -2, 0);
        dueOf(two(true, 123, -2, false, 77, -1), SUBTRACT, true, 893, -2, 0);
        dueOf(two(false, NINES, 0, false, 1, 0), ADD, false, FULL, 1, 0);
        dueOf(two(false, FULL, 0, false, 1, -1), SUBTRACT, false, NINES, -1, 0);
        dueOf(two(false, FULL, 0, false, 1, -2), SUBTRACT, false, FULL, 0, 16);
        dueOf(two(false, FULL, 0, false, 6, -2), SUBTRACT, false, NINES, -1, 16);
        dueOf(two(false, 1, 369, false, 1, -398), ADD, false, FULL, 354, 16);
        dueOf(two(false, 1, 369, true, 1, -398), ADD, false, FULL, 354, 16);
        dueOf(two(false, 1, -398, true, 2, -398), ADD, true, 1, -398, 0);
        dueOf(two(false, 0, 5, false, 3, 7), ADD, false, 300, 5, 0);
        dueOf(two(false, 3, 7, true, 0, -398), ADD, false, 3 * FULL, -8, 0);
        dueOf(two(false, 0, 2, false, 3, 7), SUBTRACT, true, 300000, 2, 0);
        DecimalWords x = two(false, 1, 17, false, 5, -1);
        x.mode(2);
        dueOf(x, SUBTRACT, false, NINES, 1, 16);
        x.mode(3);
        dueOf(x, SUBTRACT, false, FULL, 2, 16);
        // What is far below half a unit, or not, still tells which side of the half it is.
        dueOf(two(false, FULL, 0, false, 5, -1), ADD, false, FULL, 0, 16);
        dueOf(two(false, FULL, 0, false, 4999999999999999L, -17), SUBTRACT, false, FULL, 0, 16);
        dueOf(two(false, FULL, 0, false, 5 * FULL, -17), SUBTRACT, false, FULL, 0, 16);
        dueOf(two(false, FULL, 0, false, 5 * FULL + 1, -17), SUBTRACT, false, NINES, -1, 16);
        DecimalWords y = two(false, NINES - 4, 30, false, 5, 29);
        y.apply(ADD, 3, 0, 1);
        y.put(4, false, 1, -300);
        y.apply(ADD, 5, 3, 4);
        dueFinite("a rest far below", y, 5, false, y.coefficient(3), 30);
    }

    private static void zeroSums() {
        for (int mode = 0; mode < 5; mode++) {
            DecimalWords x = two(false, 5, 3, true, 50, 2);
            x.mode(mode);
            dueOf(x, ADD, mode == 4, 0, 2, 0);
            DecimalWords y = two(true, 0, 3, true, 0, -2);
            y.mode(mode);
            dueOf(y, ADD, true, 0, -2, 0);
            dueOf(y, SUBTRACT, mode == 4, 0, -2, 0);
            DecimalWords z = two(false, 0, 3, true, 0, 9);
            z.mode(mode);
            dueOf(z, ADD, mode == 4, 0, 3, 0);
            dueOf(z, SUBTRACT, false, 0, 3, 0);
        }
    }

    private static void infiniteSums() {
        dueOf(special(INFINITY, INFINITY), ADD, 1, 0);
        dueOf(special(INFINITY, INFINITY), SUBTRACT, 2, 1);
        dueOf(special(INFINITY, MINUS_INFINITY), ADD, 2, 1);
        dueOf(special(MINUS_INFINITY, INFINITY), SUBTRACT, 5, 0);
        dueOf(special(MINUS_INFINITY, 0), ADD, 5, 0);
        dueOf(special(0, MINUS_INFINITY), ADD, 5, 0);
        dueOf(special(0, MINUS_INFINITY), SUBTRACT, 1, 0);
        dueOf(special(0, INFINITY), SUBTRACT, 5, 0);
        for (int operation = ADD; operation <= LESSER; operation++) {
            dueOf(special(NOTHING, INFINITY), operation, 2, 0);
            dueOf(special(0, NOTHING), operation, 2, 0);
            dueOf(special(NOTHING, NOTHING), operation, 2, 0);
        }
    }

    private static void product() {
        dueOf(two(true, 12, 3, false, 100, -5), MULTIPLY, true, 1200, -2, 0);
        dueOf(two(true, 0, 300, true, 7, 300), MULTIPLY, false, 0, 369, 0);
        dueOf(two(true, 0, -300, false, 7, -300), MULTIPLY, true, 0, -398, 0);
        dueOf(two(false, NINES, 0, false, NINES, 0), MULTIPLY, false, NINES - 1, 16, 16);
        dueOf(two(false, 3, 369, false, FULL, -20), MULTIPLY, false, 3 * FULL, 349, 0);
        dueOf(two(false, 5000, -200, false, 20, -200), MULTIPLY, false, 1000, -398, 0);
        dueOf(two(false, 3, 200, false, 2, 180), MULTIPLY, false, 600000000000L, 369, 0);
        dueOf(special(INFINITY, 0), MULTIPLY, 2, 1);
        dueOf(special(0, MINUS_INFINITY), MULTIPLY, 2, 1);
        dueOf(special(MINUS_INFINITY, MINUS_INFINITY), MULTIPLY, 1, 0);
        DecimalWords x = special(INFINITY, 0);
        x.put(1, true, 1, 0);
        dueOf(x, MULTIPLY, 5, 0);
    }

    private static void quotient() {
        dueOf(two(false, 1, 0, false, 3, 0), DIVIDE, false, 3333333333333333L, -16, 16);
        dueOf(two(false, 2, 0, true, 3, 0), DIVIDE, true, 6666666666666667L, -16, 16);
        dueOf(two(false, 1, 0, false, 8, 0), DIVIDE, false, 125, -3, 0);
        dueOf(two(false, 600, 0, false, 3, 2), DIVIDE, false, 200, -2, 0);
        dueOf(two(false, 1, 0, false, NINES, 0), DIVIDE, false, FULL, -31, 16);
        dueOf(two(false, 1, -200, false, 5, 198), DIVIDE, false, 0, -398, 24);
        dueOf(two(false, 0, -200, true, 5, 300), DIVIDE, true, 0, -398, 0);
        dueOf(two(false, 0, 200, true, 5, -300), DIVIDE, true, 0, 369, 0);
        dueOf(two(false, 5, 0, true, 0, 3), DIVIDE, 5, 2);
        dueOf(two(true, 0, 0, true, 0, 3), DIVIDE, 2, 1);
        dueOf(special(INFINITY, MINUS_INFINITY), DIVIDE, 2, 1);
        DecimalWords x = special(INFINITY, 0);
        x.put(1, true, 0, 3);
        dueOf(x, DIVIDE, 5, 0);
        DecimalWords y = special(0, MINUS_INFINITY);
        y.put(0, false, 7, 12);
        dueOf(y, DIVIDE, true, 0, -398, 0);
    }

    private static void wishes() {
        // The nearest exponent to the wish: as many zeros as there is room for, on either side.
        dueOf(two(false, 100, 0, false, 10, 0), DIVIDE, false, 10, 0, 0);
        dueOf(two(false, 10, 300, false, 1, -398), ADD, false, FULL, 286, 0 | 16);
        dueOf(two(false, FULL, 0, false, FULL, 0), MULTIPLY, false, FULL, 15, 0);
        dueOf(two(false, 4 * FULL, 0, false, 25, 0), MULTIPLY, false, FULL, 2, 0);
        dueOf(two(false, 1, 200, false, 1, 184), MULTIPLY, false, FULL, 369, 0);
        dueOf(two(false, 1, 200, false, 1, 185), MULTIPLY, 1, 20);
        dueOf(two(false, 1000, -200, false, 1, -201), MULTIPLY, false, 1, -398, 0);
    }

    private static void roundingByEachMode() {
        long[][] due = { // the last digit of 1000000000000000.5, ...1.5, ...0.4, ...0.6, by mode
            {0, 2, 0, 1}, {1, 2, 0, 1}, {0, 1, 0, 0}, {1, 2, 1, 1}, {0, 1, 0, 0}
        };
        long[][] dueMinus = {
            {0, 2, 0, 1}, {1, 2, 0, 1}, {0, 1, 0, 0}, {0, 1, 0, 0}, {1, 2, 1, 1}
        };
        long[] whole = {FULL, FULL + 1, FULL, FULL};
        int[] tenths = {5, 5, 4, 6};
        for (int mode = 0; mode < 5; mode++) {
            for (int i = 0; i < 4; i++) {
                DecimalWords x = two(false, whole[i], 0, false, tenths[i], -1);
                x.mode(mode);
                dueOf(x, ADD, false, FULL + due[mode][i], 0, 16);
                DecimalWords y = two(true, whole[i], 0, true, tenths[i], -1);
                y.mode(mode);
                dueOf(y, ADD, true, FULL + dueMinus[mode][i], 0, 16);
            }
        }
        dueOf(two(false, NINES, 0, false, 5, -1), ADD, false, FULL, 1, 16);
        dueOf(two(false, NINES, 0, false, 4, -1), ADD, false, NINES, 0, 16);
    }

    private static void tooGreat() {
        for (int mode = 0; mode < 5; mode++) {
            DecimalWords x = two(false, NINES, 369, false, 1, 369);
            x.mode(mode);
            boolean stays = mode == 2 || mode == 4;
            if (stays) {
                dueOf(x, ADD, false, NINES, 369, 20);
            } else {
                dueOf(x, ADD, 1, 20);
            }
            DecimalWords y = two(true, NINES, 369, true, 1, 369);
            y.mode(mode);
            if (mode == 2 || mode == 3) {
                dueOf(y, ADD, true, NINES, 369, 20);
            } else {
                dueOf(y, ADD, 5, 20);
            }
        }
        // Great by rounding alone.
        dueOf(two(false, NINES, 369, false, 5, 368), ADD, 1, 20);
        dueOf(two(false, NINES, 369, false, 4, 368), ADD, false, NINES, 369, 16);
        DecimalWords z = two(false, NINES, 369, false, 1, -398);
        z.mode(3);
        dueOf(z, ADD, 1, 20);
    }

    private static void tooSmall() {
        dueOf(two(false, 1, -398, false, 5, -1), MULTIPLY, false, 0, -398, 24);
        dueOf(two(true, 3, -398, false, 5, -1), MULTIPLY, true, 2, -398, 24);
        dueOf(two(false, NINES, -215, false, NINES, -215), MULTIPLY, false, 1, -398, 24);
        dueOf(two(false, NINES, -216, false, NINES, -215), MULTIPLY, false, 0, -398, 24);
        // Exact below 10^-383: no flag.
        dueOf(two(false, 10, -398, false, 5, -1), MULTIPLY, false, 5, -398, 0);
        // From below 10^-383 rounded up to it: the flag; from 10^-383 on: none.
        dueOf(two(false, NINES, -398, false, 9999, -4), MULTIPLY, false, 9998999999999999L, -398, 16);
        dueOf(two(false, NINES, -200, false, 1, -199), MULTIPLY, false, FULL, -398, 24);
        dueOf(two(false, FULL, -200, false, FULL + 1, -213), MULTIPLY, false, FULL + 1, -398, 0);
        dueOf(two(false, 1, -383, false, FULL + 1, -15), MULTIPLY, false, FULL + 1, -398, 0);
        dueOf(two(false, 1, -200, false, 3, 198), DIVIDE, false, 0, -398, 24);
        dueOf(two(false, 1, -183, false, 3, 200), DIVIDE, false, 333333333333333L, -398, 24);
        dueOf(two(false, 10, -183, false, 3, 200), DIVIDE, false, 3333333333333333L, -398, 16);
        DecimalWords x = two(true, 1, -398, false, 1, -398);
        x.mode(4);
        dueOf(x, MULTIPLY, true, 1, -398, 24);
        x.mode(3);
        dueOf(x, MULTIPLY, true, 0, -398, 24);
    }

    private static void quantize() {
        dueOf(two(false, 217, -2, true, 1, -1), QUANTIZE, false, 22, -1, 16);
        dueOf(two(true, 25, -1, false, 9, 0), QUANTIZE, true, 2, 0, 16);
        dueOf(two(true, 217, -2, false, 1, -5), QUANTIZE, true, 217000, -5, 0);
        dueOf(two(true, 2000, 3, false, 1, 5), QUANTIZE, true, 20, 5, 0);
        dueOf(two(false, 1, 0, false, 1, -15), QUANTIZE, false, FULL, -15, 0);
        dueOf(two(false, 1, 0, false, 1, -16), QUANTIZE, 2, 1);
        dueOf(two(false, 1, 369, false, 1, -398), QUANTIZE, 2, 1);
        dueOf(two(true, 0, 369, false, 1, -398), QUANTIZE, true, 0, -398, 0);
        dueOf(two(true, 0, -398, false, 1, 369), QUANTIZE, true, 0, 369, 0);
        dueOf(two(true, 1, -398, false, 0, 369), QUANTIZE, true, 0, 369, 16);
        dueOf(two(false, NINES, 0, false, 0, 16), QUANTIZE, false, 1, 16, 16);
        dueOf(two(false, NINES, 0, false, 0, 17), QUANTIZE, false, 0, 17, 16);
        dueOf(two(false, NINES, 0, false, 0, 1), QUANTIZE, false, FULL, 1, 16);
        dueOf(two(false, 5, 0, false, 0, 1), QUANTIZE, false, 0, 1, 16);
        DecimalWords x = two(true, 1, 0, false, 0, 40);
        x.mode(4);
        dueOf(x, QUANTIZE, true, 1, 40, 16);
        x.mode(3);
        dueOf(x, QUANTIZE, true, 0, 40, 16);
        dueOf(special(MINUS_INFINITY, INFINITY), QUANTIZE, 5, 0);
        dueOf(special(INFINITY, 0), QUANTIZE, 2, 1);
        dueOf(special(0, INFINITY), QUANTIZE, 2, 1);
    }

    private static void lesser() {
        dueOf(two(false, 3, 0, false, 2, 0), LESSER, false, 2, 0, 0);
        dueOf(two(true, 3, 0, false, 2, 0), LESSER, true, 3, 0, 0);
        dueOf(two(false, 30, 0, false, 3, 1), LESSER, false, 30, 0, 0);
        dueOf(two(false, 3, 1, false, 30, 0), LESSER, false, 3, 1, 0);
        dueOf(two(false, 0, 4, true, 0, 5), LESSER, false, 0, 4, 0);
        dueOf(two(true, 0, 4, false, 0, 5), LESSER, true, 0, 4, 0);
        DecimalWords x = special(INFINITY, 0);
        x.put(1, false, NINES, 369);
        dueOf(x, LESSER, false, NINES, 369, 0);
        x.unpack(1, 0, MINUS_INFINITY);
        dueOf(x, LESSER, 5, 0);
        dueOf(special(INFINITY, INFINITY), LESSER, 1, 0);
    }

    private static void dueNext(boolean minus, long c, int q, boolean dueMinus, long dueC, int dueQ) {
        DecimalWords x = two(minus, c, q, false, 0, 0);
        x.unpack(1, 0, NOTHING);
        x.trap(31);
        dueOf(x, NEXT, dueMinus, dueC, dueQ, 0);
    }

    private static void next() {
        dueNext(false, 1, 0, false, FULL + 1, -15);
        dueNext(true, 1, 0, true, NINES, -16);
        dueNext(true, 1, 5, true, NINES, -11);
        dueNext(true, FULL, 0, true, NINES, -1);
        dueNext(true, FULL, -398, true, FULL - 1, -398);
        dueNext(true, 100, -385, true, FULL - 1, -398);
        dueNext(true, 20, -398, true, 19, -398);
        dueNext(false, 20, -397, false, 201, -398);
        dueNext(false, NINES, 0, false, FULL, 1);
        dueNext(false, NINES, -398, false, FULL, -397);
        dueNext(true, 1, -398, true, 0, -398);
        dueNext(true, 0, 12, false, 1, -398);
        dueNext(false, 0, 369, false, 1, -398);
        dueNext(true, NINES, 369, true, NINES - 1, 369);
        dueOf(two(false, NINES, 369, false, 0, 0), NEXT, 1, 0);
        dueOf(special(INFINITY, NOTHING), NEXT, 1, 0);
        dueOf(special(MINUS_INFINITY, NOTHING), NEXT, true, NINES, 369, 0);
        dueOf(special(NOTHING, 0), NEXT, 2, 0);
    }

    private static void sameRegisters() {
        DecimalWords x = new DecimalWords();
        x.put(3, true, 7, 1);
        x.apply(MULTIPLY, 3, 3, 3);
        dueFinite("a square in its place", x, 3, false, 49, 2);
        x.apply(ADD, 3, 3, 3);
        dueFinite("twice in its place", x, 3, false, 98, 2);
        x.apply(DIVIDE, 3, 3, 3);
        dueFinite("by itself", x, 3, false, 1, 0);
        x.apply(SUBTRACT, 3, 3, 3);
        dueFinite("less itself", x, 3, false, 0, 0);
        x.put(4, false, 55, -1);
        x.put(5, false, 2, 0);
        x.apply(QUANTIZE, 5, 4, 5);
        dueFinite("quantized into b", x, 5, false, 6, 0);
    }

    private static void dueCompare(DecimalWords x, int want) {
        CHECK.due("compare", x.compare(0, 1), want);
        CHECK.due("compare the other way", x.compare(1, 0), want == 2 ? 2 : -want);
        CHECK.due("flags of compare", x.flags(), 0);
    }

    private static void compare() {
        dueCompare(two(false, 123, -2, false, 77, -1), -1);
        dueCompare(two(true, 123, -2, true, 77, -1), 1);
        dueCompare(two(true, 1, 0, false, 0, 0), -1);
        dueCompare(two(false, 30, 0, false, 3, 1), 0);
        dueCompare(two(true, 3, 1, true, 30, 0), 0);
        dueCompare(two(true, 0, 5, false, 0, -5), 0);
        dueCompare(two(false, 1, 369, false, NINES, -398), 1);
        dueCompare(two(false, 0, 369, false, 1, -398), -1);
        dueCompare(two(false, NINES, 0, false, 1, 16), -1);
        dueCompare(two(false, 11, 15, false, NINES, 0), 1);
        dueCompare(special(INFINITY, MINUS_INFINITY), 1);
        dueCompare(special(INFINITY, INFINITY), 0);
        dueCompare(special(MINUS_INFINITY, 0), -1);
        dueCompare(special(NOTHING, INFINITY), 2);
        dueCompare(special(NOTHING, NOTHING), 2);
        DecimalWords x = special(INFINITY, 0);
        x.put(1, false, NINES, 369);
        dueCompare(x, 1);
        for (int r : NO_REGISTERS) {
            outside("compare " + r, () -> x.compare(r, 0));
            outside("compare to " + r, () -> x.compare(0, r));
        }
    }

    private static void kindCoefficientExponent() {
        DecimalWords x = special(INFINITY, MINUS_INFINITY);
        dueKind("an infinity", x, 0, 1);
        dueKind("minus an infinity", x, 1, 5);
        x.unpack(2, 0, -1);
        dueKind("nothing has no sign", x, 2, 2);
        x.put(3, true, 12, -3);
        dueFinite("a finite one", x, 3, true, 12, -3);
        for (int r : NO_REGISTERS) {
            outside("kind of " + r, () -> x.kind(r));
            outside("coefficient of " + r, () -> x.coefficient(r));
            outside("exponent of " + r, () -> x.exponent(r));
        }
    }

    private static void pack() {
        DecimalWords x = new DecimalWords();
        CHECK.due("+0", x.pack(0, 0), 398L << 53);
        x.put(0, true, 5, -398);
        CHECK.due("-5E-398", x.pack(0, 0), Long.MIN_VALUE | 5);
        x.put(0, false, (1L << 53) - 1, 369);
        CHECK.due("the greatest short one", x.pack(0, 0), 767L << 53 | (1L << 53) - 1);
        x.put(0, false, 1L << 53, 369);
        CHECK.due("the least long one", x.pack(0, 0), 3L << 61 | 767L << 51);
        x.put(0, true, NINES, 0);
        CHECK.due("-9999999999999999", x.pack(0, 0),
                7L << 61 | 398L << 51 | (NINES - (1L << 53)));
        for (int way = 0; way < 2; way++) {
            x.unpack(1, way, INFINITY | 12345);
            CHECK.due("an infinity", x.pack(1, way), INFINITY);
            x.unpack(1, way, MINUS_INFINITY | 1);
            CHECK.due("minus an infinity", x.pack(1, way), MINUS_INFINITY);
            x.unpack(1, way, -1);
            CHECK.due("nothing", x.pack(1, way), NOTHING);
        }
        for (int r : NO_REGISTERS) {
            outside("pack " + r, () -> x.pack(r, 2));
        }
        wrong("way 2", () -> x.pack(0, 2));
        wrong("way -1", () -> x.pack(0, -1));
    }

    /** The ten bits as a text without blanks. */
    private static void dueGroup(long c, String bits) {
        DecimalWords x = new DecimalWords();
        x.put(0, false, c, -398);
        CHECK.due(c + " by digits", x.pack(0, 1), Long.parseLong(bits, 2));
        x.unpack(1, 1, Long.parseLong(bits, 2));
        dueFinite(bits + " by digits", x, 1, false, c, -398);
    }

    private static void packByDigits() {
        dueGroup(0, "0");
        dueGroup(567, "1011100111");
        dueGroup(568, "1011101000");
        dueGroup(569, "1011101001");
        dueGroup(583, "1010101011");
        dueGroup(596, "1011111010");
        dueGroup(827, "1100101101");
        dueGroup(974, "1011111100");
        dueGroup(895, "1000011111");
        dueGroup(983, "0110001111");
        dueGroup(938, "0110111110");
        dueGroup(869, "1100101111");
        dueGroup(798, "1111011110");
        dueGroup(589, "1011001111");
        dueGroup(989, "0011101111");
        dueGroup(898, "0001111110");
        dueGroup(123456, "00101000111001010110");
        DecimalWords x = new DecimalWords();
        x.put(0, false, 7 * FULL, 114);
        CHECK.due("7E15, E 512", x.pack(0, 1), 2L << 61 | 7L << 58);
        x.put(0, true, 8 * FULL, 113);
        CHECK.due("-8E15, E 511", x.pack(0, 1), 7L << 61 | 1L << 59 | 255L << 50);
        x.put(0, false, 9 * FULL + 5, 369);
        CHECK.due("9E15 + 5, E 767", x.pack(0, 1), 3L << 61 | 2L << 59 | 1L << 58 | 255L << 50 | 5);
    }

    private static void unpack() {
        DecimalWords x = new DecimalWords();
        x.unpack(0, 0, Long.MIN_VALUE | 400L << 53 | 77);
        dueFinite("-77E2", x, 0, true, 77, 2);
        x.unpack(0, 0, 3L << 61 | 767L << 51 | (NINES - (1L << 53)));
        dueFinite("the greatest", x, 0, false, NINES, 369);
        x.unpack(0, 0, 7L << 61 | 767L << 51 | (NINES + 1 - (1L << 53)));
        dueFinite("one above it", x, 0, true, 0, 369);
        x.unpack(0, 0, 3L << 61 | 3L << 51 | (1L << 51) - 1);
        dueFinite("far above it", x, 0, false, 0, -395);
        for (int first = 0; first < 4; first++) {
            x.unpack(0, 1, (long) first << 8 | 0x6E);
            dueFinite("888 with the first bits " + first, x, 0, false, 888, -398);
            x.unpack(0, 1, (long) first << 48 | 0xFFL << 40);
            dueFinite("999 with the first bits " + first, x, 0, false, 999000000000000L, -398);
        }
        x.unpack(0, 1, 7L << 61 | 2L << 59 | 1L << 58 | 3L << 50 | 5);
        dueFinite("9 in front", x, 0, true, 9 * FULL + 5, 2 * 256 + 3 - 398);
        for (int way = 0; way < 2; way++) {
            x.unpack(1, way, INFINITY | 3L << 40);
            dueKind("an infinity", x, 1, 1);
            x.unpack(1, way, MINUS_INFINITY | 1L << 57);
            dueKind("minus an infinity", x, 1, 5);
            x.unpack(1, way, Long.MIN_VALUE | NOTHING);
            dueKind("nothing", x, 1, 2);
        }
        for (int r : NO_REGISTERS) {
            outside("unpack " + r, () -> x.unpack(r, 2, 0));
        }
        wrong("way 2", () -> x.unpack(0, 2, 0));
        wrong("way -1", () -> x.unpack(0, -1, 0));
        dueFinite("after wrong calls", x, 0, true, 9 * FULL + 5, 117);
        CHECK.due("flags of unpack", x.flags(), 0);
    }

    private static void mode() {
        DecimalWords x = two(false, 1, 0, false, 3, 0);
        x.mode(3);
        dueOf(x, DIVIDE, false, 3333333333333334L, -16, 16);
        wrong("mode 5", () -> x.mode(5));
        wrong("mode -1", () -> x.mode(-1));
        dueOf(x, DIVIDE, false, 3333333333333334L, -16, 16);
        x.mode(0);
        dueOf(x, DIVIDE, false, 3333333333333333L, -16, 16);
    }

    private static void trap() {
        DecimalWords x = two(false, 1, -398, false, 3, -1);
        x.apply(MULTIPLY, 2, 0, 1);
        CHECK.due("too small and inexact", x.flags(), 24);
        // A flag that stands already traps nothing by itself, but raised once more it does.
        x.trap(8);
        x.put(3, false, 1, 0);
        dueThrow("exact", null, () -> x.apply(ADD, 4, 3, 3));
        dueFinite("exact", x, 4, false, 2, 0);
        trapped("too small again", () -> x.apply(MULTIPLY, 4, 0, 1));
        dueFinite("what the trap left", x, 4, false, 2, 0);
        x.lower();
        trapped("too small", () -> x.apply(MULTIPLY, 0, 0, 1));
        CHECK.due("all that it raised", x.flags(), 24);
        dueFinite("a, which was d", x, 0, false, 1, -398);
        wrong("trap 32", () -> x.trap(32));
        wrong("trap -1", () -> x.trap(-1));
        trapped("after wrong calls", () -> x.apply(MULTIPLY, 0, 0, 1));
        x.trap(7);
        dueThrow("traps of other flags", null, () -> x.apply(MULTIPLY, 5, 0, 1));
        x.trap(31);
        x.put(6, false, NINES, 369);
        x.lower();
        trapped("too great", () -> x.apply(ADD, 7, 6, 6));
        CHECK.due("too great and inexact", x.flags(), 20);
        trapped("invalid", () -> x.apply(QUANTIZE, 7, 6, 0));
        CHECK.due("and invalid", x.flags(), 21);
        dueFinite("never written", x, 7, false, 0, 0);
    }

    private static void flagsAndLower() {
        DecimalWords x = two(false, 1, 0, false, 0, 0);
        x.apply(DIVIDE, 2, 0, 1);
        CHECK.due("by zero", x.flags(), 2);
        x.put(1, false, 3, 0);
        x.apply(DIVIDE, 2, 0, 1);
        CHECK.due("flags stay and join", x.flags(), 18);
        x.apply(ADD, 2, 0, 1);
        CHECK.due("flags stay", x.flags(), 18);
        CHECK.due("telling does not lower", x.flags(), 18);
        x.trap(16);
        x.lower();
        CHECK.due("lowered", x.flags(), 0);
        trapped("lower leaves the traps", () -> x.apply(DIVIDE, 2, 0, 1));
    }

    private static void sum() {
        DecimalWords x = new DecimalWords();
        for (int r = 0; r < 8; r++) {
            x.put(r, false, r, 0);
        }
        CHECK.due("sum of 2 .. 4 into 0", x.sum(0, 2, 4), 0);
        dueFinite("2 + 3 + 4", x, 0, false, 9, 0);
        CHECK.due("sum of 7 into 0", x.sum(0, 7, 7), 0);
        dueFinite("9 + 7", x, 0, false, 16, 0);
        CHECK.due("sum of none", x.sum(0, 4, 3), 0);
        dueFinite("as it was", x, 0, false, 16, 0);
        // Register d among them is read as it has become.
        CHECK.due("sum of 1 .. 3 into 2", x.sum(2, 1, 3), 0);
        dueFinite("(2 + 1) * 2 + 3", x, 2, false, 9, 0);
        CHECK.due("sum of 0 .. 7 into 7", x.sum(7, 0, 7), 0);
        dueFinite("all", x, 7, false, 2 * (7 + 16 + 1 + 9 + 3 + 4 + 5 + 6), 0);
        for (int r : NO_REGISTERS) {
            outside("sum into " + r, () -> x.sum(r, 0, 1));
            outside("sum from " + r, () -> x.sum(0, r, 1));
            outside("sum to " + r, () -> x.sum(0, 1, r));
        }
        dueFinite("after wrong sums", x, 0, false, 16, 0);
        CHECK.due("flags of exact sums", x.flags(), 0);
    }

    private static void sumWithTraps() {
        DecimalWords x = new DecimalWords();
        x.put(1, false, 1, -30);
        x.put(2, false, 2, 0);
        x.unpack(3, 0, INFINITY);
        x.unpack(4, 0, MINUS_INFINITY);
        x.put(5, false, 5, 0);
        x.put(0, false, 1, 0);
        x.trap(16);
        CHECK.due("one left out", x.sum(0, 1, 2), 1);
        dueFinite("1 + 2", x, 0, false, 3, 0);
        CHECK.due("its flag", x.flags(), 16);
        x.trap(17);
        x.lower();
        CHECK.due("two left out", x.sum(0, 1, 5), 2);
        dueKind("an infinity stays", x, 0, 1);
        CHECK.due("their flags", x.flags(), 17);
        x.trap(0);
        x.lower();
        x.put(0, false, 1, 0);
        CHECK.due("none left out", x.sum(0, 1, 5), 0);
        dueKind("nothing", x, 0, 2);
        CHECK.due("flags without traps", x.flags(), 17);
    }
}
