import java.math.BigInteger;

/**
 * The document once more, in another way than the program's: exact fractions of whole numbers
 * without a bound, each rule as its words stand, and packed words as texts of bits.
 */
final class Model {
    private static final BigInteger TEN = BigInteger.TEN;
    private static final BigInteger LIMIT = TEN.pow(16);
    private static final BigInteger[] POWERS = new BigInteger[1700];
    private static final int[] GROUP_DIGITS = new int[1024];
    private static final String[] GROUP_BITS = new String[1000];

    static {
        POWERS[0] = BigInteger.ONE;
        for (int i = 1; i < POWERS.length; i++) {
            POWERS[i] = POWERS[i - 1].multiply(TEN);
        }
        java.util.Arrays.fill(GROUP_DIGITS, -1);
        for (int n = 0; n < 1000; n++) {
            GROUP_BITS[n] = groupBits(n / 100, n / 10 % 10, n % 10);
            GROUP_DIGITS[Integer.parseInt(GROUP_BITS[n], 2)] = n;
        }
        for (int bits = 0; bits < 1024; bits++) {
            if (GROUP_DIGITS[bits] < 0) {
                // Only those with x, y and z 8 or 9 are left, and there the first two do not matter.
                GROUP_DIGITS[bits] = GROUP_DIGITS[bits & 255];
            }
        }
    }

    /** sort is F, I or N. */
    static final class Datum {
        final char sort;
        final boolean minus;
        final BigInteger c;
        final int q;

        Datum(char sort, boolean minus, BigInteger c, int q) {
            this.sort = sort;
            this.minus = minus;
            this.c = c;
            this.q = q;
        }

        boolean zero() {
            return sort == 'F' && c.signum() == 0;
        }
    }

    private static final Datum NOTHING = new Datum('N', false, BigInteger.ZERO, 0);

    private final Datum[] registers = new Datum[8];
    private int mode = 0;
    private int traps = 0;
    private int flags = 0;
    private int raised = 0;

    Model() {
        for (int i = 0; i < 8; i++) {
            registers[i] = finite(false, BigInteger.ZERO, 0);
        }
    }

    private static Datum finite(boolean minus, BigInteger c, int q) {
        return new Datum('F', minus, c, q);
    }

    private static Datum infinity(boolean minus) {
        return new Datum('I', minus, BigInteger.ZERO, 0);
    }

    private static void need(int r) {
        if (r < 0 || r > 7) {
            throw new IndexOutOfBoundsException();
        }
    }

    private static void needThat(boolean right) {
        if (!right) {
            throw new IllegalArgumentException();
        }
    }

    void put(int r, boolean minus, long coefficient, int exponent) {
        need(r);
        BigInteger c = BigInteger.valueOf(coefficient);
        needThat(c.signum() >= 0 && c.compareTo(LIMIT) < 0);
        needThat(exponent >= -398 && exponent <= 369);
        registers[r] = finite(minus, c, exponent);
    }

    void apply(int operation, int d, int a, int b) {
        need(d);
        need(a);
        need(b);
        needThat(operation >= 0 && operation <= 6);
        raised = 0;
        Datum x = operation == 6 ? next(registers[a])
                : result(operation, registers[a], registers[b]);
        flags |= raised;
        if ((raised & traps) != 0) {
            throw new ArithmeticException();
        }
        registers[d] = x;
    }

    int compare(int a, int b) {
        need(a);
        need(b);
        if (registers[a].sort == 'N' || registers[b].sort == 'N') {
            return 2;
        }
        return number(registers[a]).compareTo(number(registers[b]));
    }

    int kind(int r) {
        need(r);
        return "FIN".indexOf(registers[r].sort) + (registers[r].minus ? 4 : 0);
    }

    long coefficient(int r) {
        need(r);
        return registers[r].c.longValueExact();
    }

    int exponent(int r) {
        need(r);
        return registers[r].q;
    }

    long pack(int r, int way) {
        need(r);
        needThat(way == 0 || way == 1);
        String bits = packed(registers[r], way);
        if (bits.length() != 64) {
            throw new AssertionError("the model packed " + bits.length() + " bits");
        }
        return Long.parseUnsignedLong(bits, 2);
    }

    void unpack(int r, int way, long bits) {
        need(r);
        needThat(way == 0 || way == 1);
        String text = Long.toBinaryString(bits);
        registers[r] = unpacked("0".repeat(64 - text.length()) + text, way);
    }

    void mode(int mode) {
        needThat(mode >= 0 && mode <= 4);
        this.mode = mode;
    }

    void trap(int flags) {
        needThat(flags >= 0 && flags <= 31);
        traps = flags;
    }

    int flags() {
        return flags;
    }

    void lower() {
        flags = 0;
    }

    int sum(int d, int first, int last) {
        need(d);
        need(first);
        need(last);
        int leftOut = 0;
        for (int r = first; r <= last; r++) {
            try {
                apply(0, d, d, r);
            } catch (ArithmeticException e) {
                leftOut++;
            }
        }
        return leftOut;
    }

    private Datum invalid() {
        raised |= 1;
        return NOTHING;
    }

    private Datum result(int operation, Datum a, Datum b) {
        if (a.sort == 'N' || b.sort == 'N') {
            return NOTHING;
        }
        switch (operation) {
            case 0:
                return added(a, b);
            case 1:
                return added(a, new Datum(b.sort, !b.minus, b.c, b.q));
            case 2:
                return multiplied(a, b);
            case 3:
                return divided(a, b);
            case 4:
                return quantized(a, b);
            default:
                return number(b).compareTo(number(a)) < 0 ? b : a;
        }
    }

    private Datum added(Datum a, Datum b) {
        if (a.sort == 'I' && b.sort == 'I') {
            return a.minus == b.minus ? a : invalid();
        }
        if (a.sort == 'I' || b.sort == 'I') {
            return a.sort == 'I' ? a : b;
        }
        Fraction x = number(a).plus(number(b));
        int wish = Math.min(a.q, b.q);
        if (x.above.signum() == 0) {
            return fitZero(a.minus == b.minus ? a.minus : mode == 4, wish);
        }
        return fit(x, wish);
    }

    private Datum multiplied(Datum a, Datum b) {
        boolean minus = a.minus != b.minus;
        if (a.sort == 'I' && b.zero() || b.sort == 'I' && a.zero()) {
            return invalid();
        }
        if (a.sort == 'I' || b.sort == 'I') {
            return infinity(minus);
        }
        if (a.zero() || b.zero()) {
            return fitZero(minus, a.q + b.q);
        }
        return fit(number(a).times(number(b)), a.q + b.q);
    }

    private Datum divided(Datum a, Datum b) {
        boolean minus = a.minus != b.minus;
        if (a.sort == 'I' && b.sort == 'I' || a.zero() && b.zero()) {
            return invalid();
        }
        if (a.sort == 'I') {
            return infinity(minus);
        }
        if (b.sort == 'I') {
            return finite(minus, BigInteger.ZERO, -398);
        }
        if (b.zero()) {
            raised |= 2;
            return infinity(minus);
        }
        if (a.zero()) {
            return fitZero(minus, a.q - b.q);
        }
        return fit(number(a).over(number(b)), a.q - b.q);
    }

    private Datum quantized(Datum a, Datum b) {
        if (a.sort == 'I' && b.sort == 'I') {
            return a;
        }
        if (a.sort == 'I' || b.sort == 'I') {
            return invalid();
        }
        Fraction units = number(a).over(tenTo(b.q));
        BigInteger m = rounded(units).abs();
        if (m.compareTo(LIMIT) >= 0) {
            return invalid();
        }
        if (!units.whole()) {
            raised |= 16;
        }
        return finite(a.minus, m, b.q);
    }

    private Datum next(Datum a) {
        if (a.sort == 'N' || a.sort == 'I' && !a.minus) {
            return a;
        }
        if (a.sort == 'I') {
            return finite(true, LIMIT.subtract(BigInteger.ONE), 369);
        }
        Fraction x = number(a);
        int top = a.zero() ? -398 : x.places();
        Fraction best = null;
        for (int q = Math.max(-398, top - 19); q <= Math.min(369, Math.max(-398, top + 1)); q++) {
            BigInteger c = x.over(tenTo(q)).floor().add(BigInteger.ONE);
            Fraction candidate = new Fraction(c, BigInteger.ONE).times(tenTo(q));
            if (c.abs().compareTo(LIMIT) < 0 && (best == null || candidate.compareTo(best) < 0)) {
                best = candidate;
            }
        }
        if (best == null) {
            return infinity(false);
        }
        if (best.above.signum() == 0) {
            return finite(true, BigInteger.ZERO, -398);
        }
        return nearestTo(best, -1000);
    }

    /** The c * 10^q that x is, with q nearest to the wish; null if there is none. */
    private static Datum nearestTo(Fraction x, int wish) {
        Datum best = null;
        int top = x.places();
        for (int q = Math.max(-398, top - 18); q <= Math.min(369, top + 1); q++) {
            Fraction c = x.over(tenTo(q));
            if (c.whole() && c.floor().abs().compareTo(LIMIT) < 0
                    && (best == null || Math.abs(q - wish) < Math.abs(best.q - wish))) {
                best = finite(x.above.signum() < 0, c.floor().abs(), q);
            }
        }
        return best;
    }

    private Datum fitZero(boolean minus, int wish) {
        return finite(minus, BigInteger.ZERO, wish < -398 ? -398 : wish > 369 ? 369 : wish);
    }

    private Datum fit(Fraction x, int wish) {
        Datum same = nearestTo(x, wish);
        if (same != null) {
            return same;
        }
        raised |= 16;
        boolean minus = x.above.signum() < 0;
        int e = Math.max(-398, x.places() - 16);
        BigInteger m = rounded(x.over(tenTo(e))).abs();
        if (m.equals(LIMIT)) {
            m = TEN.pow(15);
            e++;
        }
        if (e > 369) {
            raised |= 4;
            boolean most = mode == 2 || mode == 3 && minus || mode == 4 && !minus;
            return most ? finite(minus, LIMIT.subtract(BigInteger.ONE), 369) : infinity(minus);
        }
        if (x.size().compareTo(tenTo(-383)) < 0) {
            raised |= 8;
        }
        return finite(minus, m, e);
    }

    private BigInteger rounded(Fraction x) {
        BigInteger floor = x.floor();
        if (x.whole()) {
            return floor;
        }
        BigInteger ceiling = floor.add(BigInteger.ONE);
        BigInteger nearToZero = x.above.signum() < 0 ? ceiling : floor;
        BigInteger farFromZero = x.above.signum() < 0 ? floor : ceiling;
        if (mode == 2) {
            return nearToZero;
        }
        if (mode == 3) {
            return ceiling;
        }
        if (mode == 4) {
            return floor;
        }
        BigInteger two = BigInteger.TWO;
        int half = x.minus(new Fraction(floor, BigInteger.ONE))
                .compareTo(new Fraction(BigInteger.ONE, two));
        if (half != 0) {
            return half < 0 ? floor : ceiling;
        }
        if (mode == 1) {
            return farFromZero;
        }
        return floor.testBit(0) ? ceiling : floor;
    }

    private static Fraction tenTo(int q) {
        return q >= 0 ? new Fraction(POWERS[q], BigInteger.ONE)
                : new Fraction(BigInteger.ONE, POWERS[-q]);
    }

    /** An infinity is put above all that is finite. */
    private static Fraction number(Datum a) {
        Fraction size = a.sort == 'I' ? tenTo(1000)
                : new Fraction(a.c, BigInteger.ONE).times(tenTo(a.q));
        return a.minus ? new Fraction(size.above.negate(), size.below) : size;
    }

    /** below is above 0; not in lowest terms. */
    private static final class Fraction {
        final BigInteger above;
        final BigInteger below;

        Fraction(BigInteger above, BigInteger below) {
            this.above = above;
            this.below = below;
        }

        Fraction plus(Fraction o) {
            return new Fraction(above.multiply(o.below).add(o.above.multiply(below)),
                    below.multiply(o.below));
        }

        Fraction minus(Fraction o) {
            return plus(new Fraction(o.above.negate(), o.below));
        }

        Fraction times(Fraction o) {
            return new Fraction(above.multiply(o.above), below.multiply(o.below));
        }

        Fraction over(Fraction o) {
            BigInteger newAbove = above.multiply(o.below);
            BigInteger newBelow = below.multiply(o.above);
            return newBelow.signum() < 0 ? new Fraction(newAbove.negate(), newBelow.negate())
                    : new Fraction(newAbove, newBelow);
        }

        Fraction size() {
            return new Fraction(above.abs(), below);
        }

        BigInteger floor() {
            BigInteger[] parts = above.divideAndRemainder(below);
            return parts[1].signum() < 0 ? parts[0].subtract(BigInteger.ONE) : parts[0];
        }

        boolean whole() {
            return above.mod(below).signum() == 0;
        }

        /** n for which the size is from 10^(n - 1) to below 10^n. */
        int places() {
            int n = (int) ((above.bitLength() - below.bitLength() - 2) * 0.3010299956639812) - 2;
            while (size().compareTo(tenTo(n)) >= 0) {
                n++;
            }
            return n;
        }

        int compareTo(Fraction o) {
            return above.multiply(o.below).compareTo(o.above.multiply(below));
        }
    }

    private static String bits(long number, int places) {
        StringBuilder text = new StringBuilder();
        for (int i = places - 1; i >= 0; i--) {
            text.append((number >>> i & 1) == 1 ? '1' : '0');
        }
        return text.toString();
    }

    /** The table of the document, row by row. */
    private static String groupBits(int x, int y, int z) {
        String bigX = bits(x, 3);
        String bigY = bits(y, 3);
        String bigZ = bits(z, 3);
        String lastX = bits(x, 1);
        String lastY = bits(y, 1);
        String lastZ = bits(z, 1);
        String great = (x > 7 ? "x" : "") + (y > 7 ? "y" : "") + (z > 7 ? "z" : "");
        switch (great) {
            case "":
                return bigX + bigY + "0" + bigZ;
            case "z":
                return bigX + bigY + "1" + "00" + lastZ;
            case "y":
                return bigX + bigZ.substring(0, 2) + lastY + "1" + "01" + bigZ.substring(2);
            case "x":
                return bigZ.substring(0, 2) + lastX + bigY + "1" + "10" + bigZ.substring(2);
            case "xy":
                return bigZ.substring(0, 2) + lastX + "00" + lastY + "1" + "11" + bigZ.substring(2);
            case "xz":
                return bigY.substring(0, 2) + lastX + "01" + bigY.substring(2) + "1" + "11" + lastZ;
            case "yz":
                return bigX + "10" + lastY + "1" + "11" + lastZ;
            default:
                return "00" + lastX + "11" + lastY + "1" + "11" + lastZ;
        }
    }

    private static String packed(Datum x, int way) {
        String sign = x.minus ? "1" : "0";
        if (x.sort != 'F') {
            return sign + (x.sort == 'I' ? "11110" : "11111") + "0".repeat(58);
        }
        long e = x.q + 398;
        long c = x.c.longValueExact();
        if (way == 0) {
            long high = c - (1L << 53);
            return sign + (high < 0 ? bits(e, 10) + bits(c, 53) : "11" + bits(e, 10) + bits(high, 51));
        }
        String digits = "0".repeat(16 - x.c.toString().length()) + x.c;
        int d = digits.charAt(0) - '0';
        String h = bits(e / 256, 2);
        StringBuilder text = new StringBuilder(sign);
        text.append(d < 8 ? h + bits(d, 3) : "11" + h + bits(d - 8, 1));
        text.append(bits(e % 256, 8));
        for (int i = 1; i < 16; i += 3) {
            text.append(GROUP_BITS[Integer.parseInt(digits.substring(i, i + 3))]);
        }
        return text.toString();
    }

    private static Datum unpacked(String bits, int way) {
        boolean minus = bits.charAt(0) == '1';
        if (bits.startsWith("11110", 1)) {
            return infinity(minus);
        }
        if (bits.startsWith("11111", 1)) {
            return NOTHING;
        }
        boolean far = bits.startsWith("11", 1);
        if (way == 0) {
            String e = far ? bits.substring(3, 13) : bits.substring(1, 11);
            BigInteger c = new BigInteger(far ? bits.substring(13) : bits.substring(11), 2);
            c = far ? c.add(BigInteger.TWO.pow(53)) : c;
            return finite(minus, c.compareTo(LIMIT) < 0 ? c : BigInteger.ZERO,
                    Integer.parseInt(e, 2) - 398);
        }
        String h = far ? bits.substring(3, 5) : bits.substring(1, 3);
        int d = far ? 8 + Integer.parseInt(bits.substring(5, 6), 2)
                : Integer.parseInt(bits.substring(3, 6), 2);
        int e = Integer.parseInt(h, 2) * 256 + Integer.parseInt(bits.substring(6, 14), 2);
        BigInteger c = BigInteger.valueOf(d);
        for (int i = 14; i < 64; i += 10) {
            int three = GROUP_DIGITS[Integer.parseInt(bits.substring(i, i + 10), 2)];
            c = c.multiply(BigInteger.valueOf(1000)).add(BigInteger.valueOf(three));
        }
        return finite(minus, c, e - 398);
    }
}
