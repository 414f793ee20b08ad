/** The sentences about data, registers and new objects: promises 1, 2, 5, 6 and 7. */
public final class DatumTest extends Sentences {
    public static void main(String[] args) {
        begin("DatumTest");
        newRegisters();
        newMode();
        newFlags();
        newTraps();
        calls512();
        eightRegisters();
        putEdgesOfCoefficient();
        putEdgesOfExponent();
        putSign();
        putKeepsDigits();
        putOverAnything();
        nothingHasNoSign();
        kindOfEach();
        coefficientOfEach();
        exponentOfEach();
        resultsStayInRange();
        end();
    }

    private static void newRegisters() {
        sentence(1, "All registers are +0");
        DecimalWords x = new DecimalWords();
        for (int r = 0; r < 8; r++) {
            dueRegister("new", x, r, "0E0");
            due("new register " + r + " packed", x.pack(r, 0), 398L << 53);
        }
    }

    private static void newMode() {
        sentence(1, "mode EVEN");
        dueRounded("25E-1", "2E0");
        dueRounded("35E-1", "4E0");
        dueRounded("-25E-1", "-2E0");
        dueRounded("26E-1", "3E0");
        dueRounded("-26E-1", "-3E0");
    }

    private static void dueRounded(String a, String want) {
        DecimalWords x = with(a, "0E0");
        x.apply(QUANTIZE, 2, 0, 1);
        dueRegister(a + " quantized in a new object", x, 2, want);
    }

    private static void newFlags() {
        sentence(1, "no flags");
        due("flags of a new object", new DecimalWords().flags(), 0);
    }

    private static void newTraps() {
        sentence(1, "no traps");
        dueUntrapped("INF", MULTIPLY, "0E0", INVALID);
        dueUntrapped("1E0", DIVIDE, "0E0", BY_ZERO);
        dueUntrapped(MOST, ADD, MOST, TOO_GREAT | INEXACT);
        dueUntrapped(LEAST, MULTIPLY, LEAST, TOO_SMALL | INEXACT);
        dueUntrapped("1E0", DIVIDE, "3E0", INEXACT);
    }

    private static void dueUntrapped(String a, int operation, String b, int flags) {
        DecimalWords x = with(a, b);
        dueThrown("operation " + operation + " in a new object", x, "nothing",
                y -> y.apply(operation, 2, 0, 1));
        due("flags of operation " + operation + " in a new object", x.flags(), flags);
    }

    private static void calls512() {
        sentence(1, "An object is used for at most 512 calls after it has been made");
        DecimalWords x = new DecimalWords();
        x.put(1, false, 1, 0);
        for (int call = 2; call < 512; call++) {
            x.apply(ADD, 0, 0, 1);
        }
        due("the 512th call", x.coefficient(0), 510);
    }

    private static void eightRegisters() {
        sentence(2, "There are eight REGISTERS, 0 .. 7");
        DecimalWords x = new DecimalWords();
        for (int r = 0; r < 8; r++) {
            x.put(r, r % 2 == 1, 100 + r, 10 - r);
        }
        for (int r = 0; r < 8; r++) {
            dueRegister("each of its own", x, r, (r % 2 == 1 ? "-" : "") + (100 + r) + "E" + (10 - r));
        }
    }

    private static void putEdgesOfCoefficient() {
        sentence(2, "a COEFFICIENT c, 0 .. 10^16 - 1");
        DecimalWords x = new DecimalWords();
        x.put(0, false, 0, 3);
        dueRegister("the least", x, 0, "0E3");
        x.put(0, false, 9999999999999999L, 3);
        dueRegister("the greatest", x, 0, NINES + "E3");
        dueThrown("one below the least", x, "IllegalArgumentException", y -> y.put(0, false, -1, 3));
        dueThrown("one above the greatest", x, "IllegalArgumentException",
                y -> y.put(0, false, 10000000000000000L, 3));
    }

    private static void putEdgesOfExponent() {
        sentence(2, "an EXPONENT q, -398 .. 369");
        DecimalWords x = new DecimalWords();
        x.put(0, false, 7, -398);
        dueRegister("the least", x, 0, "7E-398");
        x.put(0, false, 7, 369);
        dueRegister("the greatest", x, 0, "7E369");
        dueThrown("one below the least", x, "IllegalArgumentException", y -> y.put(0, false, 7, -399));
        dueThrown("one above the greatest", x, "IllegalArgumentException", y -> y.put(0, false, 7, 370));
    }

    private static void putSign() {
        sentence(2, "with the sign - or not");
        DecimalWords x = new DecimalWords();
        x.put(0, true, 7, 1);
        dueRegister("minus", x, 0, "-7E1");
        x.put(0, false, 7, 1);
        dueRegister("plus", x, 0, "7E1");
        x.put(0, true, 0, -398);
        dueRegister("minus, of 0", x, 0, "-0E-398");
        x.put(0, true, 0, 369);
        dueRegister("minus, of 0", x, 0, "-0E369");
        x.put(0, false, 0, 369);
        dueRegister("plus, of 0", x, 0, "0E369");
    }

    private static void putKeepsDigits() {
        sentence(2, "Register r becomes coefficient * 10^exponent");
        DecimalWords x = new DecimalWords();
        x.mode(CUT);
        x.trap(31);
        x.put(5, false, 1200, -5);
        dueRegister("zeros at the end stay", x, 5, "1200E-5");
        x.put(5, false, 1000000000000000L, 369);
        dueRegister("zeros at the end stay", x, 5, FULL + "E369");
        due("flags of put", x.flags(), 0);
    }

    private static void putOverAnything() {
        sentence(2, "Register r becomes coefficient * 10^exponent");
        DecimalWords x = new DecimalWords();
        for (String before : new String[] {"INF", "-INF", "NOTHING", "-" + MOST}) {
            set(x, 3, before);
            x.put(3, false, 4, 2);
            dueRegister("put over " + before, x, 3, "4E2");
        }
    }

    private static void nothingHasNoSign() {
        sentence(5, "NOTHING (without a sign)");
        DecimalWords x = new DecimalWords();
        x.unpack(0, 0, -1);
        due("unpacked by way 0 with bit 63", x.kind(0), 2);
        x.unpack(0, 1, -1);
        due("unpacked by way 1 with bit 63", x.kind(0), 2);
        for (int way = 0; way < 2; way++) {
            x.unpack(0, way, -1);
            due("packed again by way " + way, x.pack(0, way), 0x7C00000000000000L);
        }
        set(x, 1, "-5E0");
        for (int operation = ADD; operation <= LESSER; operation++) {
            x.apply(operation, 2, 1, 0);
            due("-5 and nothing by operation " + operation, x.kind(2), 2);
            x.apply(operation, 2, 0, 1);
            due("nothing and -5 by operation " + operation, x.kind(2), 2);
        }
        set(x, 3, "-INF");
        set(x, 4, "0E0");
        x.apply(MULTIPLY, 2, 3, 4);
        due("-INF * 0", x.kind(2), 2);
        x.apply(QUANTIZE, 2, 3, 4);
        due("-INF quantized by 0", x.kind(2), 2);
        set(x, 5, "INF");
        x.apply(DIVIDE, 2, 3, 5);
        due("-INF / INF", x.kind(2), 2);
        x.apply(ADD, 2, 3, 5);
        due("-INF + INF", x.kind(2), 2);
        x.apply(NEXT, 2, 0, 0);
        due("next of nothing", x.kind(2), 2);
    }

    private static void kindOfEach() {
        sentence(5, "0 finite, 1 an infinity, 2 NOTHING; 4 more with the sign -");
        String[] data = {
            "1E0", "0E0", MOST, "-1E0", "-0E0", "-" + MOST, "-0E-398", "INF", "-INF", "NOTHING"
        };
        int[] want = {0, 0, 0, 4, 4, 4, 4, 1, 5, 2};
        DecimalWords x = new DecimalWords();
        for (int i = 0; i < data.length; i++) {
            set(x, 7, data[i]);
            due("kind of " + data[i], x.kind(7), want[i]);
        }
    }

    private static void coefficientOfEach() {
        sentence(6, "The coefficient of register r; 0 if it is not finite");
        DecimalWords x = new DecimalWords();
        for (String datum : new String[] {"INF", "-INF", "NOTHING"}) {
            set(x, 4, "-" + NINES + "E369");
            due("coefficient of -" + MOST, x.coefficient(4), 9999999999999999L);
            set(x, 4, datum);
            due("coefficient of " + datum, x.coefficient(4), 0);
        }
        for (int way = 0; way < 2; way++) {
            x.unpack(4, way, 0x7B00000000012345L);
            due("coefficient of an infinity with bits behind", x.coefficient(4), 0);
            x.unpack(4, way, 0x7F00000000012345L);
            due("coefficient of nothing with bits behind", x.coefficient(4), 0);
        }
        makeByOperations(x);
        due("coefficient of 5 / 0", x.coefficient(2), 0);
        due("coefficient of 0 / 0", x.coefficient(3), 0);
        set(x, 4, "-0E5");
        due("coefficient of -0", x.coefficient(4), 0);
    }

    private static void exponentOfEach() {
        sentence(7, "The exponent of register r; 0 if it is not finite");
        DecimalWords x = new DecimalWords();
        for (String datum : new String[] {"INF", "-INF", "NOTHING"}) {
            set(x, 4, "-7E369");
            due("exponent of -7E369", x.exponent(4), 369);
            set(x, 4, "0E-398");
            due("exponent of 0E-398", x.exponent(4), -398);
            set(x, 4, datum);
            due("exponent of " + datum, x.exponent(4), 0);
        }
        for (int way = 0; way < 2; way++) {
            x.unpack(4, way, 0x7B00000000012345L);
            due("exponent of an infinity with bits behind", x.exponent(4), 0);
            x.unpack(4, way, 0x7F00000000012345L);
            due("exponent of nothing with bits behind", x.exponent(4), 0);
        }
        makeByOperations(x);
        due("exponent of 5 / 0", x.exponent(2), 0);
        due("exponent of 0 / 0", x.exponent(3), 0);
    }

    /** An infinity in register 2 and nothing in register 3, that held numbers before. */
    private static void makeByOperations(DecimalWords x) {
        set(x, 0, "5E3");
        set(x, 1, "0E1");
        set(x, 2, "123E45");
        set(x, 3, "-123E-45");
        x.apply(DIVIDE, 2, 0, 1);
        x.apply(DIVIDE, 3, 1, 1);
    }

    private static void resultsStayInRange() {
        sentence(6, "a COEFFICIENT c, 0 .. 10^16 - 1, and an EXPONENT q, -398 .. 369");
        String[] data = {MOST, "-" + MOST, LEAST, "-" + LEAST, NINES + "E0", "-" + FULL + "E-398", "7E-3", "0E369"};
        for (int mode = EVEN; mode <= LOWER; mode++) {
            for (int operation = ADD; operation <= NEXT; operation++) {
                DecimalWords x = new DecimalWords();
                x.mode(mode);
                for (int a = 0; a < 64; a++) {
                    set(x, 0, data[a / 8]);
                    set(x, 1, data[a % 8]);
                    x.apply(operation, 2, 0, 1);
                    long c = x.coefficient(2);
                    int q = x.exponent(2);
                    due("in range of " + data[a / 8] + " and " + data[a % 8] + " by operation " + operation,
                            c >= 0 && c <= 9999999999999999L && q >= -398 && q <= 369 ? 1 : 0, 1);
                }
            }
        }
    }
}
