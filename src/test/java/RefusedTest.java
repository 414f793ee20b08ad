/** The sentences about refused calls, each promise's own: what is thrown, and that nothing changes. */
public final class RefusedTest extends Sentences {
    private static final int[] NO_REGISTERS = {-1, 8, 16, -8, 256, Integer.MIN_VALUE, Integer.MAX_VALUE};
    private static final int[] NO_OPERATIONS = {-1, 7, 8, -7, 256, Integer.MIN_VALUE, Integer.MAX_VALUE};
    private static final int[] NO_WAYS = {-1, 2, 3, 256, Integer.MIN_VALUE, Integer.MAX_VALUE};
    private static final int[] NO_MODES = {-1, 5, 6, 256, Integer.MIN_VALUE, Integer.MAX_VALUE};
    private static final int[] NO_TRAPS = {-1, 32, 33, 48, 256, Integer.MIN_VALUE, Integer.MAX_VALUE};
    private static final int[] NO_EXPONENTS = {-399, 370, -32768, 767, Integer.MIN_VALUE, Integer.MAX_VALUE};
    private static final long[] NO_COEFFICIENTS = {
        -1, 10000000000000000L, 10000000000000001L, 1L << 62, -(1L << 32), Long.MIN_VALUE, Long.MAX_VALUE
    };
    private static final String OUTSIDE = "IndexOutOfBoundsException";
    private static final String WRONG = "IllegalArgumentException";
    private static final String THERE_IS_NO_SUCH_REGISTER = "IndexOutOfBoundsException: there is no such register";

    public static void main(String[] args) {
        begin("RefusedTest");
        putOutside();
        putWrongCoefficient();
        putWrongExponent();
        putBoth();
        applyOutside();
        applyWrong();
        applyBoth();
        applyRegisterBOfNext();
        applyBeforeTraps();
        readersOutside();
        compareOutside();
        packOutside();
        packWrong();
        unpackOutside();
        unpackWrong();
        packAndUnpackBoth();
        modeWrong();
        trapWrong();
        sumOutside();
        sumOutsideThoughNothingIsAdded();
        end();
    }

    /** Objects with data of each kind, some flags, and by its number another mode and other traps. */
    private static DecimalWords state(int number) {
        DecimalWords x = new DecimalWords();
        String[] data = {"1E0", "-0E5", "INF", "-INF", "NOTHING", "-" + MOST, "123E-398", "3E0"};
        for (int r = 0; r < 8; r++) {
            set(x, r, data[r]);
        }
        x.mode(number % 5);
        if (number % 2 == 0) {
            x.apply(DIVIDE, 7, 0, 7);
        }
        if (number % 3 == 0) {
            x.apply(DIVIDE, 6, 0, 1);
        }
        x.trap(number * 5 % 32);
        return x;
    }

    private static void refused(String what, String exception, Call call) {
        for (int number = 0; number < 32; number++) {
            DecimalWords x = state(number);
            DecimalWords twin = state(number);
            dueThrown(what, x, exception, call);
            dueText(what + " changes registers or flags", Look.registers(x), Look.registers(twin));
            dueText(what + " changes the mode or traps", Look.settings(x), Look.settings(twin));
        }
    }

    private static void putOutside() {
        sentence(2, THERE_IS_NO_SUCH_REGISTER);
        for (int r : NO_REGISTERS) {
            refused("put(" + r + ", ..)", OUTSIDE, x -> x.put(r, true, 5, 5));
        }
    }

    private static void putWrongCoefficient() {
        sentence(2, "IllegalArgumentException: the coefficient or the exponent is out of range (the coefficient)");
        for (long c : NO_COEFFICIENTS) {
            refused("put(0, true, " + c + ", 5)", WRONG, x -> x.put(0, true, c, 5));
            refused("put(7, false, " + c + ", 400)", WRONG, x -> x.put(7, false, c, 400));
        }
    }

    private static void putWrongExponent() {
        sentence(2, "IllegalArgumentException: the coefficient or the exponent is out of range (the exponent)");
        for (int q : NO_EXPONENTS) {
            refused("put(0, true, 5, " + q + ")", WRONG, x -> x.put(0, true, 5, q));
            refused("put(7, false, 0, " + q + ")", WRONG, x -> x.put(7, false, 0, q));
        }
    }

    private static void putBoth() {
        sentence(2, "What is thrown: the first of those listed in the heading that holds");
        for (int r : NO_REGISTERS) {
            refused("put(" + r + ", true, -1, 5)", OUTSIDE, x -> x.put(r, true, -1, 5));
            refused("put(" + r + ", true, 5, 370)", OUTSIDE, x -> x.put(r, true, 5, 370));
            refused("put(" + r + ", true, -1, -399)", OUTSIDE, x -> x.put(r, true, -1, -399));
        }
    }

    private static void applyOutside() {
        sentence(3, "IndexOutOfBoundsException: there is no such register d, a or b");
        for (int r : NO_REGISTERS) {
            for (int operation = ADD; operation <= NEXT; operation++) {
                int o = operation;
                refused("apply(" + o + ", " + r + ", 0, 1)", OUTSIDE, x -> x.apply(o, r, 0, 1));
                refused("apply(" + o + ", 2, " + r + ", 1)", OUTSIDE, x -> x.apply(o, 2, r, 1));
                refused("apply(" + o + ", 2, 0, " + r + ")", OUTSIDE, x -> x.apply(o, 2, 0, r));
            }
        }
    }

    private static void applyWrong() {
        sentence(3, "IllegalArgumentException: there is no such operation");
        for (int operation : NO_OPERATIONS) {
            refused("apply(" + operation + ", 2, 0, 1)", WRONG, x -> x.apply(operation, 2, 0, 1));
            refused("apply(" + operation + ", 0, 7, 7)", WRONG, x -> x.apply(operation, 0, 7, 7));
        }
    }

    private static void applyBoth() {
        sentence(3, "What is thrown: the first of those listed in the heading that holds");
        for (int r : NO_REGISTERS) {
            for (int operation : NO_OPERATIONS) {
                refused("apply(" + operation + ", " + r + ", 0, 1)", OUTSIDE, x -> x.apply(operation, r, 0, 1));
                refused("apply(" + operation + ", 2, " + r + ", 1)", OUTSIDE, x -> x.apply(operation, 2, r, 1));
                refused("apply(" + operation + ", 2, 0, " + r + ")", OUTSIDE, x -> x.apply(operation, 2, 0, r));
            }
        }
    }

    private static void applyRegisterBOfNext() {
        sentence(3, "b, a register, does not matter (but it is a register)");
        for (int r : NO_REGISTERS) {
            refused("apply(6, 2, 0, " + r + ")", OUTSIDE, x -> x.apply(NEXT, 2, 0, r));
        }
    }

    private static void applyBeforeTraps() {
        sentence(3, "What is thrown: the first of those listed in the heading that holds (before a trap)");
        for (int traps = 0; traps < 32; traps++) {
            DecimalWords x = with("1E0", "0E0");
            x.trap(traps);
            dueThrown("1 / 0 into register 8", x, OUTSIDE, y -> y.apply(DIVIDE, 8, 0, 1));
            dueThrown("1 and 0 by operation 7", x, WRONG, y -> y.apply(7, 2, 0, 1));
            due("flags", x.flags(), 0);
        }
    }

    private static void readersOutside() {
        sentence(5, THERE_IS_NO_SUCH_REGISTER);
        for (int r : NO_REGISTERS) {
            refused("kind(" + r + ")", OUTSIDE, x -> x.kind(r));
        }
        sentence(6, THERE_IS_NO_SUCH_REGISTER);
        for (int r : NO_REGISTERS) {
            refused("coefficient(" + r + ")", OUTSIDE, x -> x.coefficient(r));
        }
        sentence(7, THERE_IS_NO_SUCH_REGISTER);
        for (int r : NO_REGISTERS) {
            refused("exponent(" + r + ")", OUTSIDE, x -> x.exponent(r));
        }
    }

    private static void compareOutside() {
        sentence(4, THERE_IS_NO_SUCH_REGISTER);
        for (int r : NO_REGISTERS) {
            refused("compare(" + r + ", 0)", OUTSIDE, x -> x.compare(r, 0));
            refused("compare(0, " + r + ")", OUTSIDE, x -> x.compare(0, r));
            refused("compare(" + r + ", " + r + ")", OUTSIDE, x -> x.compare(r, r));
            refused("compare of nothing and " + r, OUTSIDE, x -> x.compare(4, r));
        }
    }

    private static void packOutside() {
        sentence(8, THERE_IS_NO_SUCH_REGISTER);
        for (int r : NO_REGISTERS) {
            refused("pack(" + r + ", 0)", OUTSIDE, x -> x.pack(r, 0));
            refused("pack(" + r + ", 1)", OUTSIDE, x -> x.pack(r, 1));
        }
    }

    private static void packWrong() {
        sentence(8, "IllegalArgumentException: way is not 0 or 1");
        for (int way : NO_WAYS) {
            for (int register = 0; register < 8; register++) {
                int r = register;
                refused("pack(" + r + ", " + way + ")", WRONG, x -> x.pack(r, way));
            }
        }
    }

    private static void unpackOutside() {
        sentence(9, THERE_IS_NO_SUCH_REGISTER);
        for (int r : NO_REGISTERS) {
            refused("unpack(" + r + ", 0, 5)", OUTSIDE, x -> x.unpack(r, 0, 5));
            refused("unpack(" + r + ", 1, 5)", OUTSIDE, x -> x.unpack(r, 1, 5));
        }
    }

    private static void unpackWrong() {
        sentence(9, "IllegalArgumentException: way is not 0 or 1");
        for (int way : NO_WAYS) {
            refused("unpack(0, " + way + ", 5)", WRONG, x -> x.unpack(0, way, 5));
            refused("unpack(7, " + way + ", -1)", WRONG, x -> x.unpack(7, way, -1));
        }
    }

    private static void packAndUnpackBoth() {
        sentence(8, "What is thrown: the first of those listed in the heading that holds");
        for (int r : NO_REGISTERS) {
            refused("pack(" + r + ", 2)", OUTSIDE, x -> x.pack(r, 2));
            refused("pack(" + r + ", -1)", OUTSIDE, x -> x.pack(r, -1));
        }
        sentence(9, "What is thrown: the first of those listed in the heading that holds");
        for (int r : NO_REGISTERS) {
            refused("unpack(" + r + ", 2, 5)", OUTSIDE, x -> x.unpack(r, 2, 5));
            refused("unpack(" + r + ", -1, 5)", OUTSIDE, x -> x.unpack(r, -1, 5));
        }
    }

    private static void modeWrong() {
        sentence(10, "IllegalArgumentException: it is not 0 .. 4");
        for (int mode : NO_MODES) {
            refused("mode(" + mode + ")", WRONG, x -> x.mode(mode));
        }
    }

    private static void trapWrong() {
        sentence(11, "IllegalArgumentException: it is not 0 .. 31");
        for (int flags : NO_TRAPS) {
            refused("trap(" + flags + ")", WRONG, x -> x.trap(flags));
        }
    }

    private static void sumOutside() {
        sentence(14, "IndexOutOfBoundsException: there is no such register d, first or last");
        for (int r : NO_REGISTERS) {
            refused("sum(" + r + ", 0, 1)", OUTSIDE, x -> x.sum(r, 0, 1));
            refused("sum(0, " + r + ", 7)", OUTSIDE, x -> x.sum(0, r, 7));
            refused("sum(0, 0, " + r + ")", OUTSIDE, x -> x.sum(0, 0, r));
        }
    }

    private static void sumOutsideThoughNothingIsAdded() {
        sentence(14, "(Nothing is added if first is above last, all three being registers.");
        refused("sum(0, 7, -1)", OUTSIDE, x -> x.sum(0, 7, -1));
        refused("sum(0, 8, 7)", OUTSIDE, x -> x.sum(0, 8, 7));
        refused("sum(8, 5, 4)", OUTSIDE, x -> x.sum(8, 5, 4));
        refused("sum(-1, 5, 4)", OUTSIDE, x -> x.sum(-1, 5, 4));
        refused("sum(0, 9, 8)", OUTSIDE, x -> x.sum(0, 9, 8));
    }
}
