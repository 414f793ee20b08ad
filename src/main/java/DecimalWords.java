/**
 * Decimal numbers of sixteen digits with exponents, in eight registers. The words of the comments
 * (fit, wish, nothing, the names of flags and modes) are those of the document, DOC.md.
 */
public final class DecimalWords {
    private static final int REGISTERS = 8;
    private static final int DIGITS = 16;
    private static final int LEAST_EXPONENT = -398;
    private static final int MOST_EXPONENT = 369;
    private static final int LEAST_FULL_POWER = -383;
    private static final long COEFFICIENT_LIMIT = 10000000000000000L;
    private static final long LEAST_FULL_COEFFICIENT = 1000000000000000L;
    private static final long EIGHT_DIGITS = 100000000L;

    private static final int ADD = 0;
    private static final int SUBTRACT = 1;
    private static final int MULTIPLY = 2;
    private static final int DIVIDE = 3;
    private static final int QUANTIZE = 4;
    private static final int LESSER = 5;
    private static final int NEXT = 6;

    private static final int EVEN = 0;
    private static final int AWAY = 1;
    private static final int CUT = 2;
    private static final int HIGHER = 3;
    private static final int LOWER = 4;

    private static final int INVALID = 1;
    private static final int BY_ZERO = 2;
    private static final int TOO_GREAT = 4;
    private static final int TOO_SMALL = 8;
    private static final int INEXACT = 16;
    private static final int ALL_FLAGS = 31;

    private static final int FINITE = 0;
    private static final int INFINITE = 1;
    private static final int NOTHING = 2;
    private static final int MINUS_KIND = 4;
    private static final int UNORDERED = 2;

    private static final int BINARY = 0;
    private static final int BY_DIGITS = 1;

    private static final int NO_REST = 0;
    private static final int BELOW_HALF = 1;
    private static final int HALF = 2;
    private static final int ABOVE_HALF = 3;

    private static final long[] TENS = {
        1L, 10L, 100L, 1000L, 10000L, 100000L, 1000000L, 10000000L, 100000000L, 1000000000L,
        10000000000L, 100000000000L, 1000000000000L, 10000000000000L, 100000000000000L,
        1000000000000000L, 10000000000000000L
    };

    private final Datum[] registers;
    // Made once and used by each call: a run of calls makes no further objects.
    private final Datum result;
    private final Outcome outcome;
    private int rounding;
    private int traps;
    private int standing;
    private int raisedNow;

    public DecimalWords() {
        registers = new Datum[REGISTERS];
        for (int r = 0; r < REGISTERS; r++) {
            registers[r] = new Datum();
        }
        result = new Datum();
        outcome = new Outcome();
        rounding = EVEN;
        traps = 0;
        standing = 0;
        raisedNow = 0;
    }

    public void put(int r, boolean minus, long coefficient, int exponent)
            throws IndexOutOfBoundsException, IllegalArgumentException {
        needRegister(r);
        if (coefficient < 0 || coefficient >= COEFFICIENT_LIMIT) {
            throw new IllegalArgumentException("the coefficient is out of range");
        }
        if (exponent < LEAST_EXPONENT || exponent > MOST_EXPONENT) {
            throw new IllegalArgumentException("the exponent is out of range");
        }
        registers[r].setFinite(minus, coefficient, exponent);
    }

    public void apply(int operation, int d, int a, int b)
            throws IndexOutOfBoundsException, IllegalArgumentException, ArithmeticException {
        needRegister(d);
        needRegister(a);
        needRegister(b);
        if (operation < ADD || operation > NEXT) {
            throw new IllegalArgumentException("there is no such operation");
        }
        if (!operate(operation, d, a, b)) {
            throw new ArithmeticException("a flag that was raised is a trap");
        }
    }

    public int compare(int a, int b) throws IndexOutOfBoundsException {
        needRegister(a);
        needRegister(b);
        if (registers[a].sort == NOTHING || registers[b].sort == NOTHING) {
            return UNORDERED;
        }
        return order(registers[a], registers[b]);
    }

    public int kind(int r) throws IndexOutOfBoundsException {
        needRegister(r);
        return registers[r].sort + (registers[r].minus ? MINUS_KIND : 0);
    }

    public long coefficient(int r) throws IndexOutOfBoundsException {
        needRegister(r);
        return registers[r].coefficient;
    }

    public int exponent(int r) throws IndexOutOfBoundsException {
        needRegister(r);
        return registers[r].exponent;
    }

    public long pack(int r, int way) throws IndexOutOfBoundsException, IllegalArgumentException {
        needRegister(r);
        needWay(way);
        return Packing.wordOf(registers[r], way == BY_DIGITS);
    }

    public void unpack(int r, int way, long bits)
            throws IndexOutOfBoundsException, IllegalArgumentException {
        needRegister(r);
        needWay(way);
        Packing.read(registers[r], way == BY_DIGITS, bits);
    }

    public void mode(int mode) throws IllegalArgumentException {
        if (mode < EVEN || mode > LOWER) {
            throw new IllegalArgumentException("there is no such mode");
        }
        rounding = mode;
    }

    public void trap(int flags) throws IllegalArgumentException {
        if (flags < 0 || flags > ALL_FLAGS) {
            throw new IllegalArgumentException("there are no such flags");
        }
        traps = flags;
    }

    public int flags() {
        return standing;
    }

    public void lower() {
        standing = 0;
    }

    public int sum(int d, int first, int last) throws IndexOutOfBoundsException {
        needRegister(d);
        needRegister(first);
        needRegister(last);
        int leftOut = 0;
        for (int r = first; r <= last; r++) {
            if (!operate(ADD, d, d, r)) {
                leftOut++;
            }
        }
        return leftOut;
    }

    private static void needRegister(int r) {
        if (r < 0 || r >= REGISTERS) {
            throw new IndexOutOfBoundsException("there is no such register");
        }
    }

    private static void needWay(int way) {
        if (way != BINARY && way != BY_DIGITS) {
            throw new IllegalArgumentException("there is no such way");
        }
    }

    /** False when a trap was met: the flags stand then, and register d is as it was. */
    private boolean operate(int operation, int d, int a, int b) {
        raisedNow = 0;
        setResult(operation, registers[a], registers[b]);
        standing |= raisedNow;
        if ((raisedNow & traps) != 0) {
            return false;
        }
        registers[d].take(result);
        return true;
    }

    private void setResult(int operation, Datum a, Datum b) {
        if (operation == NEXT) {
            setNext(a);
        } else if (a.sort == NOTHING || b.sort == NOTHING) {
            result.setNothing();
        } else if (operation == LESSER) {
            result.take(order(b, a) < 0 ? b : a);
        } else if (a.sort == INFINITE || b.sort == INFINITE) {
            setFromInfinity(operation, a, b);
        } else {
            setFromFinite(operation, a, b);
        }
    }

    private void setFromInfinity(int operation, Datum a, Datum b) {
        boolean minus = a.minus != b.minus;
        boolean both = a.sort == b.sort;
        switch (operation) {
            case ADD:
                addInfinity(a, b, b.minus);
                break;
            case SUBTRACT:
                addInfinity(a, b, !b.minus);
                break;
            case MULTIPLY:
                if (a.isZero() || b.isZero()) {
                    setInvalid();
                } else {
                    result.setInfinity(minus);
                }
                break;
            case DIVIDE:
                if (both) {
                    setInvalid();
                } else if (a.sort == INFINITE) {
                    result.setInfinity(minus);
                } else {
                    result.setFinite(minus, 0, LEAST_EXPONENT);
                }
                break;
            case QUANTIZE:
            default:
                if (both) {
                    result.take(a);
                } else {
                    setInvalid();
                }
                break;
        }
    }

    private void addInfinity(Datum a, Datum b, boolean minusOfB) {
        if (a.sort == b.sort && a.minus != minusOfB) {
            setInvalid();
        } else {
            result.setInfinity(a.sort == INFINITE ? a.minus : minusOfB);
        }
    }

    private void setFromFinite(int operation, Datum a, Datum b) {
        switch (operation) {
            case ADD:
                outcome.setSum(a, b, b.minus, rounding == LOWER);
                fit();
                break;
            case SUBTRACT:
                outcome.setSum(a, b, !b.minus, rounding == LOWER);
                fit();
                break;
            case MULTIPLY:
                outcome.setProduct(a, b);
                fit();
                break;
            case DIVIDE:
                if (b.isZero()) {
                    divideByZero(a, b);
                } else {
                    outcome.setQuotient(a, b);
                    fit();
                }
                break;
            case QUANTIZE:
            default:
                quantize(a, b.exponent);
                break;
        }
    }

    private void divideByZero(Datum a, Datum b) {
        if (a.isZero()) {
            setInvalid();
        } else {
            raise(BY_ZERO);
            result.setInfinity(a.minus != b.minus);
        }
    }

    private void quantize(Datum a, int exponent) {
        int drop = exponent - a.exponent;
        if (drop > 0) {
            outcome.setWhole(a);
            outcome.cut(drop);
            if (outcome.rest != NO_REST) {
                raise(INEXACT);
            }
            result.setFinite(a.minus, roundedKept(a.minus), exponent);
        } else if (a.isZero()) {
            result.setFinite(a.minus, 0, exponent);
        } else if (digitsOf(a.coefficient) - drop > DIGITS) {
            setInvalid();
        } else {
            result.setFinite(a.minus, a.coefficient * tenTo(-drop), exponent);
        }
    }

    private void setNext(Datum a) {
        if (a.sort == NOTHING || a.sort == INFINITE && !a.minus) {
            result.take(a);
        } else if (a.sort == INFINITE) {
            result.setFinite(true, COEFFICIENT_LIMIT - 1, MOST_EXPONENT);
        } else if (a.isZero()) {
            result.setFinite(false, 1, LEAST_EXPONENT);
        } else {
            int shift = Math.min(DIGITS - digitsOf(a.coefficient), a.exponent - LEAST_EXPONENT);
            long c = a.coefficient * tenTo(shift);
            if (a.minus) {
                stepToZero(c, a.exponent - shift);
            } else {
                stepFromZero(c, a.exponent - shift);
            }
        }
    }

    private void stepToZero(long c, int q) {
        // Below a power of ten numbers stand ten times closer, unless the exponent can't be less.
        if (c == LEAST_FULL_COEFFICIENT && q > LEAST_EXPONENT) {
            result.setFinite(true, COEFFICIENT_LIMIT - 1, q - 1);
        } else {
            result.setFinite(true, c - 1, q);
        }
    }

    private void stepFromZero(long c, int q) {
        if (c < COEFFICIENT_LIMIT - 1) {
            result.setFinite(false, c + 1, q);
        } else if (q < MOST_EXPONENT) {
            result.setFinite(false, LEAST_FULL_COEFFICIENT, q + 1);
        } else {
            result.setInfinity(false);
        }
    }

    private void raise(int flag) {
        raisedNow |= flag;
    }

    private void setInvalid() {
        raise(INVALID);
        result.setNothing();
    }

    private void fit() {
        if (outcome.isZero()) {
            int exponent = Math.max(LEAST_EXPONENT, Math.min(outcome.wish, MOST_EXPONENT));
            result.setFinite(outcome.minus, 0, exponent);
        } else if (!fitWithoutRest()) {
            fitRounded();
        }
    }

    /** False when no coefficient and exponent in range stand for just the outcome. */
    private boolean fitWithoutRest() {
        if (outcome.more) {
            return false;
        }
        outcome.dropZeros();
        if (outcome.high != 0) {
            return false;
        }
        int least = Math.max(LEAST_EXPONENT, outcome.power - (DIGITS - digitsOf(outcome.low)));
        int most = Math.min(MOST_EXPONENT, outcome.power);
        if (least > most) {
            return false;
        }
        int exponent = Math.max(least, Math.min(outcome.wish, most));
        result.setFinite(outcome.minus, outcome.low * tenTo(outcome.power - exponent), exponent);
        return true;
    }

    private void fitRounded() {
        raise(INEXACT);
        int top = outcome.power + outcome.digits();
        int exponent = Math.max(LEAST_EXPONENT, top - DIGITS);
        if (exponent > MOST_EXPONENT) {
            setTooGreat();
            return;
        }
        outcome.cut(exponent - outcome.power);
        long m = roundedKept(outcome.minus);
        if (m >= COEFFICIENT_LIMIT) {
            m = LEAST_FULL_COEFFICIENT;
            exponent++;
        }
        if (exponent > MOST_EXPONENT) {
            setTooGreat();
            return;
        }
        // The outcome itself is too small or not, whatever it was rounded to.
        if (top <= LEAST_FULL_POWER) {
            raise(TOO_SMALL);
        }
        result.setFinite(outcome.minus, m, exponent);
    }

    private void setTooGreat() {
        raise(TOO_GREAT);
        boolean stays = rounding == CUT
                || rounding == HIGHER && outcome.minus
                || rounding == LOWER && !outcome.minus;
        if (stays) {
            result.setFinite(outcome.minus, COEFFICIENT_LIMIT - 1, MOST_EXPONENT);
        } else {
            result.setInfinity(outcome.minus);
        }
    }

    private long roundedKept(boolean minus) {
        boolean up;
        switch (rounding) {
            case EVEN:
                up = outcome.rest == ABOVE_HALF || outcome.rest == HALF && outcome.kept % 2 != 0;
                break;
            case AWAY:
                up = outcome.rest == HALF || outcome.rest == ABOVE_HALF;
                break;
            case HIGHER:
                up = outcome.rest != NO_REST && !minus;
                break;
            case LOWER:
                up = outcome.rest != NO_REST && minus;
                break;
            case CUT:
            default:
                up = false;
                break;
        }
        return up ? outcome.kept + 1 : outcome.kept;
    }

    /** Neither a nor b is nothing. */
    private static int order(Datum a, Datum b) {
        int side = a.side();
        if (side != b.side()) {
            return side < b.side() ? -1 : 1;
        }
        if (side == 0) {
            return 0;
        }
        return side * orderOfSizes(a, b);
    }

    /** Neither a nor b is nothing or 0. */
    private static int orderOfSizes(Datum a, Datum b) {
        if (a.sort == INFINITE || b.sort == INFINITE) {
            return orderOf(a.sort, b.sort);
        }
        int digitsOfA = digitsOf(a.coefficient);
        int digitsOfB = digitsOf(b.coefficient);
        int byTop = orderOf(a.exponent + digitsOfA, b.exponent + digitsOfB);
        if (byTop != 0) {
            return byTop;
        }
        return orderOf(a.coefficient * tenTo(DIGITS - digitsOfA),
                b.coefficient * tenTo(DIGITS - digitsOfB));
    }

    private static int orderOf(long a, long b) {
        if (a == b) {
            return 0;
        }
        return a < b ? -1 : 1;
    }

    /** 10^n. All callers give 0 .. 16; n is held there so that no index can be wrong. */
    private static long tenTo(int n) {
        if (n < 0) {
            return 1;
        }
        return TENS[n < DIGITS ? n : DIGITS];
    }

    private static int digitsOf(long c) {
        for (int n = 0; n < DIGITS; n++) {
            if (c < TENS[n]) {
                return n;
            }
        }
        return DIGITS;
    }

    /** What a register holds. What is not finite has the coefficient and exponent 0. */
    private static final class Datum {
        int sort;
        boolean minus;
        long coefficient;
        int exponent;

        void setFinite(boolean minusSign, long c, int q) {
            sort = FINITE;
            minus = minusSign;
            coefficient = c;
            exponent = q;
        }

        void setInfinity(boolean minusSign) {
            sort = INFINITE;
            minus = minusSign;
            coefficient = 0;
            exponent = 0;
        }

        void setNothing() {
            sort = NOTHING;
            minus = false;
            coefficient = 0;
            exponent = 0;
        }

        void take(Datum other) {
            sort = other.sort;
            minus = other.minus;
            coefficient = other.coefficient;
            exponent = other.exponent;
        }

        boolean isZero() {
            return sort == FINITE && coefficient == 0;
        }

        int side() {
            if (isZero()) {
                return 0;
            }
            return minus ? -1 : 1;
        }
    }

    /**
     * What an operation gives before it is fit: with its sign, (high * 10^16 + low) * 10^power, and
     * a rest of less than one unit of low beyond that when there is more. Where there is more, high
     * is above 0: so there are 17 digits, and the rest decides no more than which side of a half.
     */
    private static final class Outcome {
        boolean minus;
        long high;
        long low;
        int power;
        boolean more;
        int wish;
        long kept;
        int rest;

        boolean isZero() {
            return high == 0 && low == 0 && !more;
        }

        int digits() {
            return high != 0 ? DIGITS + digitsOf(high) : digitsOf(low);
        }

        void setWhole(Datum a) {
            minus = a.minus;
            high = 0;
            low = a.coefficient;
            power = a.exponent;
            more = false;
        }

        void setSum(Datum a, Datum b, boolean minusOfB, boolean zeroIsMinus) {
            boolean alike = a.minus == minusOfB;
            if (a.isZero()) {
                setWhole(b);
                minus = minusOfB;
            } else if (b.isZero()) {
                setWhole(a);
            } else if (a.exponent >= b.exponent) {
                join(a, b, alike);
                minus = a.minus != minus;
            } else {
                join(b, a, alike);
                minus = minusOfB != minus;
            }
            if (isZero()) {
                minus = alike ? minusOfB : zeroIsMinus;
            }
            wish = Math.min(a.exponent, b.exponent);
        }

        /**
         * The size of upper more or less that of under, neither being 0, and the exponent of upper
         * not below that of under; minus tells that under was the greater one.
         */
        private void join(Datum upper, Datum under, boolean alike) {
            int gap = upper.exponent - under.exponent;
            int shift = Math.min(gap, DIGITS - digitsOf(upper.coefficient));
            int wide = Math.min(gap - shift, DIGITS);
            long c = upper.coefficient * tenTo(shift);
            high = c / tenTo(DIGITS - wide);
            low = c % tenTo(DIGITS - wide) * tenTo(wide);
            power = upper.exponent - shift - wide;
            // What of under lies beyond the 32 digits of upper is told by more alone.
            int beyond = gap - shift - wide;
            long part = beyond > DIGITS ? 0 : under.coefficient / tenTo(beyond);
            more = beyond > DIGITS || under.coefficient % tenTo(beyond) != 0;
            minus = false;
            if (alike) {
                addToLow(part);
            } else if (high == 0 && low < part) {
                low = part - low;
                minus = true;
            } else {
                addToLow(more ? -part - 1 : -part);
            }
        }

        private void addToLow(long part) {
            low += part;
            if (low >= COEFFICIENT_LIMIT) {
                low -= COEFFICIENT_LIMIT;
                high++;
            } else if (low < 0) {
                low += COEFFICIENT_LIMIT;
                high--;
            }
        }

        void setProduct(Datum a, Datum b) {
            long highOfA = a.coefficient / EIGHT_DIGITS;
            long lowOfA = a.coefficient % EIGHT_DIGITS;
            long highOfB = b.coefficient / EIGHT_DIGITS;
            long lowOfB = b.coefficient % EIGHT_DIGITS;
            long middle = highOfA * lowOfB + lowOfA * highOfB;
            minus = a.minus != b.minus;
            high = highOfA * highOfB + middle / EIGHT_DIGITS;
            low = middle % EIGHT_DIGITS * EIGHT_DIGITS;
            addToLow(lowOfA * lowOfB);
            power = a.exponent + b.exponent;
            more = false;
            wish = power;
        }

        /** b is not 0. */
        void setQuotient(Datum a, Datum b) {
            long by = Math.max(1, b.coefficient);
            long left = a.coefficient;
            minus = a.minus != b.minus;
            power = a.exponent - b.exponent;
            wish = power;
            for (int i = 0; i < DIGITS && left < by; i++) {
                left *= 10;
                power--;
            }
            high = left / by;
            left %= by;
            low = 0;
            for (int i = 0; i < DIGITS; i++) {
                left *= 10;
                low = low * 10 + left / by;
                left %= by;
                power--;
            }
            more = left != 0;
        }

        void dropZeros() {
            if (low == 0) {
                low = high;
                high = 0;
                power += DIGITS;
            }
            for (int i = 0; i < DIGITS && low != 0 && low % 10 == 0; i++) {
                low = low / 10 + high % 10 * LEAST_FULL_COEFFICIENT;
                high /= 10;
                power++;
            }
        }

        /** Cuts the last digits off, one at least, and tells how what is cut is to half a unit. */
        void cut(int drop) {
            if (drop > 2 * DIGITS) {
                kept = 0;
                rest = isZero() ? NO_REST : BELOW_HALF;
            } else if (drop > DIGITS) {
                long unit = tenTo(drop - DIGITS);
                kept = high / unit;
                rest = restOf(high % unit, unit, low != 0 || more);
            } else {
                long unit = tenTo(drop);
                kept = high * tenTo(DIGITS - drop) + low / unit;
                rest = restOf(low % unit, unit, more);
            }
        }

        private static int restOf(long left, long unit, boolean beyond) {
            long half = unit / 2;
            if (left > half || left == half && beyond) {
                return ABOVE_HALF;
            }
            if (left == half) {
                return HALF;
            }
            return left != 0 || beyond ? BELOW_HALF : NO_REST;
        }
    }

    /** The two ways of packing a datum into 64 bits. */
    private static final class Packing {
        private static final long INFINITY_MARK = 30L;
        private static final long NOTHING_MARK = 31L;
        private static final long BINARY_LIMIT = 1L << 53;
        private static final long BOTH_HIGH = 3L << 61;
        private static final int GROUPS = 5;

        static long wordOf(Datum x, boolean byDigits) {
            long sign = x.minus ? 1L << 63 : 0;
            if (x.sort == INFINITE) {
                return sign | INFINITY_MARK << 58;
            }
            if (x.sort == NOTHING) {
                return NOTHING_MARK << 58;
            }
            long e = x.exponent - LEAST_EXPONENT;
            return sign | (byDigits ? digitWord(x.coefficient, e) : binaryWord(x.coefficient, e));
        }

        private static long binaryWord(long c, long e) {
            if (c < BINARY_LIMIT) {
                return e << 53 | c;
            }
            return BOTH_HIGH | e << 51 | (c - BINARY_LIMIT);
        }

        private static long digitWord(long c, long e) {
            long d = c / LEAST_FULL_COEFFICIENT;
            long h = e / 256;
            long word = d < 8 ? h << 61 | d << 58 : BOTH_HIGH | h << 59 | (d - 8) << 58;
            word |= (e & 255) << 50;
            for (int i = 0; i < GROUPS; i++) {
                int three = (int) (c / tenTo(3 * i) % 1000);
                word |= (long) groupOf(three / 100, three / 10 % 10, three % 10) << (10 * i);
            }
            return word;
        }

        private static int groupOf(int x, int y, int z) {
            int great = (x >> 3) << 2 | (y >> 3) << 1 | z >> 3;
            int lastX = (x & 1) << 7;
            int lastY = (y & 1) << 4;
            int lastZ = z & 1;
            switch (great) {
                case 0:
                    return x << 7 | y << 4 | z;
                case 1:
                    return x << 7 | y << 4 | 8 | lastZ;
                case 2:
                    return x << 7 | (z >> 1) << 5 | lastY | 10 | lastZ;
                case 3:
                    return x << 7 | 2 << 5 | lastY | 14 | lastZ;
                case 4:
                    return (z >> 1) << 8 | lastX | y << 4 | 12 | lastZ;
                case 5:
                    return (y >> 1) << 8 | lastX | 1 << 5 | lastY | 14 | lastZ;
                case 6:
                    return (z >> 1) << 8 | lastX | lastY | 14 | lastZ;
                default:
                    return lastX | 3 << 5 | lastY | 14 | lastZ;
            }
        }

        static void read(Datum x, boolean byDigits, long bits) {
            boolean minus = bits < 0;
            long mark = bits >>> 58 & 31;
            if (mark == INFINITY_MARK) {
                x.setInfinity(minus);
            } else if (mark == NOTHING_MARK) {
                x.setNothing();
            } else if (byDigits) {
                readDigits(x, minus, bits);
            } else {
                readBinary(x, minus, bits);
            }
        }

        private static void readBinary(Datum x, boolean minus, long bits) {
            boolean bothHigh = (bits & BOTH_HIGH) == BOTH_HIGH;
            int e = (int) (bits >>> (bothHigh ? 51 : 53) & 1023);
            long c = bothHigh ? BINARY_LIMIT | bits & (1L << 51) - 1 : bits & BINARY_LIMIT - 1;
            x.setFinite(minus, c < COEFFICIENT_LIMIT ? c : 0, e + LEAST_EXPONENT);
        }

        private static void readDigits(Datum x, boolean minus, long bits) {
            boolean bothHigh = (bits & BOTH_HIGH) == BOTH_HIGH;
            int h = (int) (bits >>> (bothHigh ? 59 : 61) & 3);
            long c = bothHigh ? 8 | bits >>> 58 & 1 : bits >>> 58 & 7;
            for (int i = GROUPS - 1; i >= 0; i--) {
                c = c * 1000 + digitsOfGroup((int) (bits >>> (10 * i) & 1023));
            }
            int e = h * 256 + (int) (bits >>> 50 & 255);
            x.setFinite(minus, c, e + LEAST_EXPONENT);
        }

        private static int digitsOfGroup(int bits) {
            int top = bits >> 7 & 7;
            int middle = bits >> 4 & 7;
            int last = bits & 1;
            if ((bits & 8) == 0) {
                return three(top, middle, bits & 7);
            }
            switch (bits >> 1 & 3) {
                case 0:
                    return three(top, middle, 8 | last);
                case 1:
                    return three(top, 8 | middle & 1, middle & 6 | last);
                case 2:
                    return three(8 | top & 1, middle, top & 6 | last);
                default:
                    return digitsOfGreatGroup(top, middle, last);
            }
        }

        /** Two at least of the three digits are 8 or 9. */
        private static int digitsOfGreatGroup(int top, int middle, int last) {
            switch (middle >> 1) {
                case 0:
                    return three(8 | top & 1, 8 | middle & 1, top & 6 | last);
                case 1:
                    return three(8 | top & 1, top & 6 | middle & 1, 8 | last);
                case 2:
                    return three(top, 8 | middle & 1, 8 | last);
                default:
                    return three(8 | top & 1, 8 | middle & 1, 8 | last);
            }
        }

        private static int three(int x, int y, int z) {
            return x * 100 + y * 10 + z;
        }
    }
}
