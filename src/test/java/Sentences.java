/**
 * What the tests by sentences share. Each of their methods is for one sentence of the document: it
 * begins with the promise and the sentence's own words.
 *
 * A datum is written as a text: -12E3 is minus 12 * 10^3, INF and -INF are the infinities, NOTHING is
 * nothing.
 */
abstract class Sentences {
    static final int ADD = 0;
    static final int SUBTRACT = 1;
    static final int MULTIPLY = 2;
    static final int DIVIDE = 3;
    static final int QUANTIZE = 4;
    static final int LESSER = 5;
    static final int NEXT = 6;

    static final int EVEN = 0;
    static final int AWAY = 1;
    static final int CUT = 2;
    static final int HIGHER = 3;
    static final int LOWER = 4;

    static final int INVALID = 1;
    static final int BY_ZERO = 2;
    static final int TOO_GREAT = 4;
    static final int TOO_SMALL = 8;
    static final int INEXACT = 16;

    static final String NINES = "9999999999999999";
    static final String FULL = "1000000000000000";
    static final String MOST = NINES + "E369";
    static final String LEAST = "1E-398";

    private static final String[] OPERATIONS = {"+", "-", "*", "/", "quantized by", "or, if less,", "next, not"};
    private static final String[] PROMISES = {
        "", "A new object", "put", "apply", "compare", "kind", "coefficient", "exponent", "pack", "unpack",
        "mode", "trap", "flags", "lower", "sum"
    };
    private static Check check;

    interface Call {
        void on(DecimalWords x);
    }

    static void begin(String test) {
        check = new Check(test);
    }

    static void end() {
        check.end();
    }

    static void sentence(int promise, String words) {
        check.sentence("promise " + promise + ", " + PROMISES[promise], words);
    }

    static void due(String what, long got, long want) {
        check.due(what, got, want);
    }

    static void dueText(String what, String got, String want) {
        check.dueText(what, got, want);
    }

    static void set(DecimalWords x, int r, String datum) {
        boolean minus = datum.charAt(0) == '-';
        String size = minus ? datum.substring(1) : datum;
        if (size.equals("INF")) {
            x.unpack(r, 0, (minus ? 0xF8L : 0x78L) << 56);
        } else if (size.equals("NOTHING")) {
            x.unpack(r, 0, 0x7CL << 56);
        } else {
            int e = size.indexOf('E');
            x.put(r, minus, Long.parseLong(size.substring(0, e)), Integer.parseInt(size.substring(e + 1)));
        }
    }

    /** What a register tells of itself by kind, coefficient and exponent. */
    static String text(DecimalWords x, int r) {
        int kind = x.kind(r);
        String sign = kind == 4 || kind == 5 ? "-" : "";
        String finite = x.coefficient(r) + "E" + x.exponent(r);
        if (kind == 0 || kind == 4) {
            return sign + finite;
        }
        String rest = finite.equals("0E0") ? "" : " with " + finite;
        return (kind == 1 || kind == 5 ? sign + "INF" : kind == 2 ? "NOTHING" : "kind " + kind) + rest;
    }

    static void dueRegister(String what, DecimalWords x, int r, String datum) {
        dueText(what + ": register " + r, text(x, r), datum);
    }

    /** A new object with a in register 0 and b in register 1. */
    static DecimalWords with(String a, String b) {
        return holding(new DecimalWords(), a, b);
    }

    private static DecimalWords holding(DecimalWords x, String a, String b) {
        set(x, 0, a);
        set(x, 1, b);
        return x;
    }

    /** An object after calls with a sign, many digits and a rest, which no later call may answer by. */
    private static DecimalWords used() {
        DecimalWords x = with("-" + NINES + "E0", "7E0");
        x.apply(DIVIDE, 2, 0, 1);
        x.apply(DIVIDE, 2, 0, 3);
        x.apply(DIVIDE, 2, 0, 1);
        x.lower();
        return x;
    }

    static void gives(String a, int operation, String b, String due, int flags) {
        gives(EVEN, a, operation, b, due, flags);
    }

    static void gives(int mode, String a, int operation, String b, String due, int flags) {
        String what = a + " " + OPERATIONS[operation] + " " + b + " in mode " + mode;
        String want = due + " with the flags " + flags;
        dueText(what, result(with(a, b), mode, operation), want);
        dueText(what + ", in a used object", result(holding(used(), a, b), mode, operation), want);
    }

    private static String result(DecimalWords x, int mode, int operation) {
        x.mode(mode);
        x.apply(operation, 2, 0, 1);
        return text(x, 2) + " with the flags " + x.flags();
    }

    /** The results that are due in the modes 0 .. 4, the flags being the same. */
    static void givesByMode(String a, int operation, String b, String[] due, int flags) {
        for (int mode = EVEN; mode <= LOWER; mode++) {
            gives(mode, a, operation, b, due[mode], flags);
        }
    }

    static void givesInAll(String a, int operation, String b, String due, int flags) {
        for (int mode = EVEN; mode <= LOWER; mode++) {
            gives(mode, a, operation, b, due, flags);
        }
    }

    /** The name of the exception that the call throws, or "nothing". */
    static String thrown(DecimalWords x, Call call) {
        try {
            call.on(x);
            return "nothing";
        } catch (RuntimeException e) {
            return e.getClass().getSimpleName();
        }
    }

    static void dueThrown(String what, DecimalWords x, String exception, Call call) {
        dueText(what + " throws", thrown(x, call), exception);
    }
}
