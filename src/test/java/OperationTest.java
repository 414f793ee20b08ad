/** The sentences about each operation, which promise 3 rests on, and about compare, promise 4. */
public final class OperationTest extends Sentences {
    private static final String[] ANY = {"1E0", "-1E0", "0E0", "-0E0", "INF", "-INF", "NOTHING"};
    private static final String[] RISING = {
        "-INF", "-" + MOST, "-5E0", "-" + LEAST, "0E7", LEAST, NINES + "E0", "2E16", MOST, "INF"
    };
    private static final String[][] EQUAL = {
        {"30E0", "3E1"}, {"-30E0", "-3E1"}, {"0E0", "-0E0"}, {"0E369", "-0E-398"}, {"INF", "INF"},
        {"-INF", "-INF"}, {FULL + "E-398", "1E-383"}, {FULL + "E354", "1E369"}
    };

    public static void main(String[] args) {
        begin("OperationTest");
        sameRegisters();
        nothingGivesNothing();
        unlikeInfinities();
        sumWithInfinity();
        exactSum();
        signOfSum();
        difference();
        wishOfSum();
        signOfZeroSum();
        signOfZeroSumOfUnlike();
        signOfProduct();
        infinityTimesZero();
        infiniteProduct();
        wishOfProduct();
        signOfQuotient();
        invalidQuotients();
        infinityBySomething();
        byInfinity();
        byZero();
        wishOfQuotient();
        quantizeInfinities();
        quantizeOneInfinity();
        quantizeRounds();
        quantizeWhole();
        quantizeTooLong();
        quantizeZero();
        quantizeOtherFlags();
        lesser();
        lesserOfEqual();
        compareUnlike();
        compareEqual();
        compareNothing();
        end();
    }

    private static void sameRegisters() {
        sentence(3, "Calls that write into a register read all theirs before, so these may be the same");
        for (int operation = ADD; operation <= NEXT; operation++) {
            for (String a : new String[] {"123456E-2", "-INF", "25E-1", "0E1"}) {
                dueSame(operation, a, "-7E0");
                dueSame(operation, a, "3E369");
                dueSame(operation, a, a);
            }
        }
    }

    private static void dueSame(int operation, String a, String b) {
        String what = "operation " + operation + " of " + a + " and " + b;
        DecimalWords apart = with(a, b);
        apart.apply(operation, 2, 0, 1);
        dueRegister(what + ", apart", apart, 0, a);
        dueRegister(what + ", apart", apart, 1, b);
        DecimalWords intoA = with(a, b);
        intoA.apply(operation, 0, 0, 1);
        dueRegister(what + ", d is a", intoA, 0, text(apart, 2));
        dueRegister(what + ", d is a", intoA, 1, b);
        due(what + ", flags where d is a", intoA.flags(), apart.flags());
        DecimalWords intoB = with(a, b);
        intoB.apply(operation, 1, 0, 1);
        dueRegister(what + ", d is b", intoB, 1, text(apart, 2));
        dueRegister(what + ", d is b", intoB, 0, a);
        if (a.equals(b)) {
            DecimalWords all = with(a, "0E0");
            all.apply(operation, 0, 0, 0);
            dueRegister(what + ", d is a and b", all, 0, text(apart, 2));
        }
    }

    private static void nothingGivesNothing() {
        sentence(3, "if one of the numbers is NOTHING, so is the result");
        for (int operation = ADD; operation <= LESSER; operation++) {
            for (String other : ANY) {
                givesInAll("NOTHING", operation, other, "NOTHING", 0);
                givesInAll(other, operation, "NOTHING", "NOTHING", 0);
            }
        }
    }

    private static void unlikeInfinities() {
        sentence(3, "infinities of unlike signs: INVALID is raised, and the result is NOTHING");
        givesInAll("INF", ADD, "-INF", "NOTHING", INVALID);
        givesInAll("-INF", ADD, "INF", "NOTHING", INVALID);
        givesInAll("INF", SUBTRACT, "INF", "NOTHING", INVALID);
        givesInAll("-INF", SUBTRACT, "-INF", "NOTHING", INVALID);
    }

    private static void sumWithInfinity() {
        sentence(3, "otherwise an infinity, if there is one");
        givesInAll("INF", ADD, "INF", "INF", 0);
        givesInAll("-INF", ADD, "-INF", "-INF", 0);
        givesInAll("INF", SUBTRACT, "-INF", "INF", 0);
        givesInAll("-INF", SUBTRACT, "INF", "-INF", 0);
        for (String finite : new String[] {"0E0", "-0E0", "5E3", "-" + MOST, MOST}) {
            givesInAll("INF", ADD, finite, "INF", 0);
            givesInAll(finite, ADD, "-INF", "-INF", 0);
            givesInAll("-INF", SUBTRACT, finite, "-INF", 0);
            givesInAll(finite, SUBTRACT, "INF", "-INF", 0);
            givesInAll(finite, SUBTRACT, "-INF", "INF", 0);
        }
    }

    private static void exactSum() {
        sentence(3, "Else the exact sum is fit");
        gives(CUT, "1E369", SUBTRACT, LEAST, NINES + "E353", INEXACT);
        gives(HIGHER, "-1E369", ADD, LEAST, "-" + NINES + "E353", INEXACT);
        gives(HIGHER, "1E369", ADD, LEAST, "1000000000000001E354", INEXACT);
        gives(EVEN, "1E16", ADD, "-" + NINES + "E0", "1E0", 0);
        gives(EVEN, FULL + "E1", SUBTRACT, NINES + "E0", "1E0", 0);
        gives(EVEN, "1E15", SUBTRACT, NINES + "E-1", "1E-1", 0);
        gives(EVEN, "-1E31", ADD, "1E0", "-" + FULL + "E16", INEXACT);
        gives(CUT, "-1E31", ADD, "1E0", "-" + NINES + "E15", INEXACT);
        gives(EVEN, "4E0", ADD, "-7E0", "-3E0", 0);
        gives(EVEN, "4E0", SUBTRACT, "-7E0", "11E0", 0);
    }

    private static void signOfSum() {
        sentence(3, "Else the exact sum is fit (its sign)");
        String[][] sums = {
            {"3E0", "5E2", "503E0"}, {"3E0", "-5E2", "-497E0"}, {"-3E0", "5E2", "497E0"}, {"-3E0", "-5E2", "-503E0"},
            {"3E1", "500E0", "530E0"}, {"3E1", "-500E0", "-470E0"}, {"-3E1", "500E0", "470E0"},
            {"-3E1", "-500E0", "-530E0"}
        };
        for (String[] sum : sums) {
            givesInAll(sum[0], ADD, sum[1], sum[2], 0);
            givesInAll(sum[1], ADD, sum[0], sum[2], 0);
        }
    }

    private static void difference() {
        sentence(3, "1 a - b (which is a + b with b's sign turned)");
        givesInAll("503E0", SUBTRACT, "5E2", "3E0", 0);
        givesInAll("3E0", SUBTRACT, "5E2", "-497E0", 0);
        givesInAll("-3E0", SUBTRACT, "5E2", "-503E0", 0);
        givesInAll("3E1", SUBTRACT, "500E0", "-470E0", 0);
        String[] data = {"3E0", "-5E2", "0E1", "-0E-1", "INF", "-INF", MOST, "-" + LEAST, FULL + "E1"};
        for (String a : data) {
            for (String b : data) {
                for (int mode = EVEN; mode <= LOWER; mode++) {
                    DecimalWords x = with(a, turned(b));
                    x.mode(mode);
                    x.apply(ADD, 2, 0, 1);
                    gives(mode, a, SUBTRACT, b, text(x, 2), x.flags());
                }
            }
        }
    }

    private static String turned(String datum) {
        return datum.charAt(0) == '-' ? datum.substring(1) : "-" + datum;
    }

    private static void wishOfSum() {
        sentence(3, "the wish being the lesser exponent");
        givesInAll("1E2", ADD, "1E0", "101E0", 0);
        givesInAll("1E0", ADD, "1E2", "101E0", 0);
        givesInAll("0E5", ADD, "3E7", "300E5", 0);
        givesInAll("3E7", SUBTRACT, "0E5", "300E5", 0);
        givesInAll("3E5", ADD, "0E7", "3E5", 0);
        givesInAll("100E1", SUBTRACT, "90E1", "10E1", 0);
        givesInAll("0E-3", SUBTRACT, "7E4", "-70000000E-3", 0);
    }

    private static void signOfZeroSum() {
        sentence(3, "if it is 0, its sign is that of both if they are alike");
        givesInAll("0E2", ADD, "0E5", "0E2", 0);
        givesInAll("-0E2", ADD, "-0E5", "-0E2", 0);
        givesInAll("-0E2", SUBTRACT, "0E-5", "-0E-5", 0);
        givesInAll("0E2", SUBTRACT, "-0E-5", "0E-5", 0);
    }

    private static void signOfZeroSumOfUnlike() {
        sentence(3, "else +, but - in mode LOWER");
        String[] due = {"0E2", "0E2", "0E2", "0E2", "-0E2"};
        givesByMode("0E2", ADD, "-0E5", due, 0);
        givesByMode("-0E2", ADD, "0E5", due, 0);
        givesByMode("0E2", SUBTRACT, "0E5", due, 0);
        givesByMode("-0E5", SUBTRACT, "-0E2", due, 0);
        givesByMode("5E3", ADD, "-50E2", due, 0);
        givesByMode("-5E3", ADD, "50E2", due, 0);
        givesByMode("50E2", SUBTRACT, "5E3", due, 0);
        givesByMode("-50E2", SUBTRACT, "-50E2", due, 0);
    }

    private static void signOfProduct() {
        sentence(3, "2 a * b: the sign is + if both signs are alike, else -");
        for (String size : new String[] {"2E0", "0E0"}) {
            String product = size.equals("2E0") ? "6E0" : "0E0";
            givesInAll(size, MULTIPLY, "3E0", product, 0);
            givesInAll("-" + size, MULTIPLY, "-3E0", product, 0);
            givesInAll("-" + size, MULTIPLY, "3E0", "-" + product, 0);
            givesInAll(size, MULTIPLY, "-3E0", "-" + product, 0);
        }
        givesInAll("-0E0", MULTIPLY, "-0E0", "0E0", 0);
        givesInAll("0E0", MULTIPLY, "-0E0", "-0E0", 0);
    }

    private static void infinityTimesZero() {
        sentence(3, "An infinity and a 0: INVALID, NOTHING");
        for (String infinity : new String[] {"INF", "-INF"}) {
            for (String zero : new String[] {"0E0", "-0E369", "0E-398"}) {
                givesInAll(infinity, MULTIPLY, zero, "NOTHING", INVALID);
                givesInAll(zero, MULTIPLY, infinity, "NOTHING", INVALID);
            }
        }
    }

    private static void infiniteProduct() {
        sentence(3, "An infinity: the infinity");
        givesInAll("INF", MULTIPLY, "INF", "INF", 0);
        givesInAll("-INF", MULTIPLY, "-INF", "INF", 0);
        givesInAll("INF", MULTIPLY, "-INF", "-INF", 0);
        givesInAll("INF", MULTIPLY, LEAST, "INF", 0);
        givesInAll("-" + LEAST, MULTIPLY, "INF", "-INF", 0);
        givesInAll("-5E0", MULTIPLY, "-INF", "INF", 0);
    }

    private static void wishOfProduct() {
        sentence(3, "Else the product is fit, the wish being the sum of the exponents");
        givesInAll("12E3", MULTIPLY, "100E-5", "1200E-2", 0);
        givesInAll(NINES + "E-16", MULTIPLY, "1E20", NINES + "E4", 0);
        gives(NINES + "E0", MULTIPLY, NINES + "E0", "9999999999999998E16", INEXACT);
        gives(HIGHER, NINES + "E0", MULTIPLY, NINES + "E0", NINES + "E16", INEXACT);
        gives("99999999E0", MULTIPLY, "99999999E0", "9999999800000001E0", 0);
        gives("100000000E0", MULTIPLY, "99999999E0", "9999999900000000E0", 0);
        gives("100000000E0", MULTIPLY, "100000000E0", FULL + "E1", 0);
    }

    private static void signOfQuotient() {
        sentence(3, "3 a / b: the sign likewise");
        givesInAll("6E0", DIVIDE, "3E0", "2E0", 0);
        givesInAll("-6E0", DIVIDE, "-3E0", "2E0", 0);
        givesInAll("-6E0", DIVIDE, "3E0", "-2E0", 0);
        givesInAll("6E0", DIVIDE, "-3E0", "-2E0", 0);
        givesInAll("-0E0", DIVIDE, "3E0", "-0E0", 0);
        givesInAll("0E0", DIVIDE, "-3E0", "-0E0", 0);
        givesInAll("-0E0", DIVIDE, "-3E0", "0E0", 0);
    }

    private static void invalidQuotients() {
        sentence(3, "Two infinities, or two 0: INVALID, NOTHING");
        givesInAll("INF", DIVIDE, "INF", "NOTHING", INVALID);
        givesInAll("-INF", DIVIDE, "INF", "NOTHING", INVALID);
        givesInAll("0E0", DIVIDE, "0E5", "NOTHING", INVALID);
        givesInAll("-0E369", DIVIDE, "0E-398", "NOTHING", INVALID);
    }

    private static void infinityBySomething() {
        sentence(3, "a infinite: the infinity");
        givesInAll("INF", DIVIDE, "0E0", "INF", 0);
        givesInAll("INF", DIVIDE, "-0E7", "-INF", 0);
        givesInAll("-INF", DIVIDE, "0E0", "-INF", 0);
        givesInAll("-INF", DIVIDE, "-" + MOST, "INF", 0);
        givesInAll("INF", DIVIDE, "-2E0", "-INF", 0);
    }

    private static void byInfinity() {
        sentence(3, "b infinite: 0 with the exponent -398");
        givesInAll("5E3", DIVIDE, "INF", "0E-398", 0);
        givesInAll("-" + MOST, DIVIDE, "INF", "-0E-398", 0);
        givesInAll("5E3", DIVIDE, "-INF", "-0E-398", 0);
        givesInAll("-0E369", DIVIDE, "-INF", "0E-398", 0);
        givesInAll("0E5", DIVIDE, "-INF", "-0E-398", 0);
    }

    private static void byZero() {
        sentence(3, "b 0: BY ZERO is raised, the infinity");
        givesInAll("1E0", DIVIDE, "0E0", "INF", BY_ZERO);
        givesInAll("-1E0", DIVIDE, "0E369", "-INF", BY_ZERO);
        givesInAll(LEAST, DIVIDE, "-0E-398", "-INF", BY_ZERO);
        givesInAll("-" + MOST, DIVIDE, "-0E0", "INF", BY_ZERO);
    }

    private static void wishOfQuotient() {
        sentence(3, "Else the quotient is fit, the wish being a's exponent less b's");
        givesInAll("600E5", DIVIDE, "3E2", "200E3", 0);
        givesInAll("6E0", DIVIDE, "3E5", "2E-5", 0);
        givesInAll(NINES + "E0", DIVIDE, NINES + "E0", "1E0", 0);
        givesInAll(NINES + "E0", DIVIDE, "1E0", NINES + "E0", 0);
        gives(EVEN, "1E0", DIVIDE, "9007199254740992E-1", "1110223024625157E-30", INEXACT);
        gives(CUT, "1E0", DIVIDE, "9007199254740992E-1", "1110223024625156E-30", INEXACT);
    }

    private static void quantizeInfinities() {
        sentence(3, "4 QUANTIZE a by b: both infinite: a");
        givesInAll("INF", QUANTIZE, "INF", "INF", 0);
        givesInAll("INF", QUANTIZE, "-INF", "INF", 0);
        givesInAll("-INF", QUANTIZE, "INF", "-INF", 0);
    }

    private static void quantizeOneInfinity() {
        sentence(3, "One infinite: INVALID, NOTHING");
        for (String finite : new String[] {"1E0", "-0E0", MOST}) {
            givesInAll("INF", QUANTIZE, finite, "NOTHING", INVALID);
            givesInAll("-INF", QUANTIZE, finite, "NOTHING", INVALID);
            givesInAll(finite, QUANTIZE, "INF", "NOTHING", INVALID);
            givesInAll(finite, QUANTIZE, "-INF", "NOTHING", INVALID);
        }
    }

    private static void quantizeRounds() {
        sentence(3, "|a| / 10^q, q being b's exponent, is rounded by the mode (of a, with its sign) to a whole "
                + "number m (INEXACT is raised if it was none)");
        givesByMode("25E-1", QUANTIZE, "-7E0", new String[] {"2E0", "3E0", "2E0", "3E0", "2E0"}, INEXACT);
        givesByMode("-25E-1", QUANTIZE, "7E0", new String[] {"-2E0", "-3E0", "-2E0", "-2E0", "-3E0"}, INEXACT);
        givesByMode("-15E0", QUANTIZE, "0E1", new String[] {"-2E1", "-2E1", "-1E1", "-1E1", "-2E1"}, INEXACT);
        givesByMode("5E0", QUANTIZE, "0E1", new String[] {"0E1", "1E1", "0E1", "1E1", "0E1"}, INEXACT);
        givesByMode("49E0", QUANTIZE, "0E2", new String[] {"0E2", "0E2", "0E2", "1E2", "0E2"}, INEXACT);
        givesByMode("51E0", QUANTIZE, "0E2", new String[] {"1E2", "1E2", "0E2", "1E2", "0E2"}, INEXACT);
        String below = "999999999999999E1";
        givesByMode(NINES + "E0", QUANTIZE, "0E1",
                new String[] {FULL + "E1", FULL + "E1", below, FULL + "E1", below}, INEXACT);
        givesByMode(NINES + "E0", QUANTIZE, "0E16", new String[] {"1E16", "1E16", "0E16", "1E16", "0E16"}, INEXACT);
        givesByMode("5000000000000000E0", QUANTIZE, "0E16",
                new String[] {"0E16", "1E16", "0E16", "1E16", "0E16"}, INEXACT);
        givesByMode(NINES + "E0", QUANTIZE, "0E17", new String[] {"0E17", "0E17", "0E17", "1E17", "0E17"}, INEXACT);
        givesByMode(LEAST, QUANTIZE, "0E369", new String[] {"0E369", "0E369", "0E369", "1E369", "0E369"}, INEXACT);
        givesByMode("-" + NINES + "E-398", QUANTIZE, "0E369",
                new String[] {"-0E369", "-0E369", "-0E369", "-0E369", "-1E369"}, INEXACT);
    }

    private static void quantizeWhole() {
        sentence(3, "(INEXACT is raised if it was none) .. it is m * 10^q with a's sign");
        givesInAll("-100E0", QUANTIZE, "5E2", "-1E2", 0);
        for (int n = 0; n < 16; n++) {
            givesInAll("1" + "0".repeat(n) + "E0", QUANTIZE, "0E" + n, "1E" + n, 0);
            givesInAll("1E" + n, QUANTIZE, "0E0", "1" + "0".repeat(n) + "E0", 0);
        }
        givesInAll(FULL + "E0", QUANTIZE, "5E15", "1E15", 0);
        givesInAll("7E3", QUANTIZE, "-5E3", "7E3", 0);
        givesInAll("-7E3", QUANTIZE, "5E-3", "-7000000E-3", 0);
    }

    private static void quantizeTooLong() {
        sentence(3, "if m is 10^16 or more, INVALID alone is raised, and the result is NOTHING; else it is m * "
                + "10^q with a's sign");
        givesInAll("1E0", QUANTIZE, "0E-15", FULL + "E-15", 0);
        givesInAll("1E0", QUANTIZE, "0E-16", "NOTHING", INVALID);
        givesInAll("-9E0", QUANTIZE, "0E-15", "-9000000000000000E-15", 0);
        givesInAll(NINES + "E0", QUANTIZE, "0E0", NINES + "E0", 0);
        givesInAll("-" + NINES + "E0", QUANTIZE, "0E-1", "NOTHING", INVALID);
        givesInAll(FULL + "E0", QUANTIZE, "0E-1", "NOTHING", INVALID);
        givesInAll("999999999999999E0", QUANTIZE, "0E-1", "9999999999999990E-1", 0);
        givesInAll("1E369", QUANTIZE, "0E-398", "NOTHING", INVALID);
        givesInAll("1E369", QUANTIZE, "0E354", FULL + "E354", 0);
        givesInAll("1E369", QUANTIZE, "0E353", "NOTHING", INVALID);
    }

    private static void quantizeZero() {
        sentence(3, "it is m * 10^q with a's sign (m being 0)");
        givesInAll("0E369", QUANTIZE, "5E-398", "0E-398", 0);
        givesInAll("-0E-398", QUANTIZE, "5E369", "-0E369", 0);
        givesInAll("-0E0", QUANTIZE, "0E0", "-0E0", 0);
        givesInAll("0E20", QUANTIZE, "5E0", "0E0", 0);
    }

    private static void quantizeOtherFlags() {
        sentence(3, "QUANTIZE .. INEXACT is raised (and no TOO SMALL, though below 10^-383)");
        givesByMode("15E-398", QUANTIZE, "0E-397",
                new String[] {"2E-397", "2E-397", "1E-397", "2E-397", "1E-397"}, INEXACT);
        givesByMode("-1E-398", QUANTIZE, "0E-397",
                new String[] {"-0E-397", "-0E-397", "-0E-397", "-0E-397", "-1E-397"}, INEXACT);
    }

    private static void lesser() {
        sentence(3, "5 LESSER: the one of both that is less");
        for (int i = 0; i < RISING.length; i++) {
            for (int j = 0; j < i; j++) {
                givesInAll(RISING[i], LESSER, RISING[j], RISING[j], 0);
                givesInAll(RISING[j], LESSER, RISING[i], RISING[j], 0);
            }
        }
    }

    private static void lesserOfEqual() {
        sentence(3, "a if they are equal as numbers");
        for (String[] both : EQUAL) {
            givesInAll(both[0], LESSER, both[1], both[0], 0);
            givesInAll(both[1], LESSER, both[0], both[1], 0);
        }
    }

    private static void compareUnlike() {
        sentence(4, "-1, 0 or 1, as a is less than, equal to or greater than b as numbers");
        for (int i = 0; i < RISING.length; i++) {
            for (int j = 0; j < i; j++) {
                dueOrder(RISING[i], RISING[j], 1);
                dueOrder(RISING[j], RISING[i], -1);
            }
        }
        dueOrder(NINES + "E0", "1E16", -1);
        dueOrder("1000000000000001E0", "1E15", 1);
        dueOrder("-1000000000000001E0", "-1E15", -1);
        dueOrder("1E369", NINES + "E-398", 1);
        dueOrder("1E369", NINES + "E353", 1);
        dueOrder("-1E369", "-" + NINES + "E353", -1);
    }

    private static void compareEqual() {
        sentence(4, "equal to .. as numbers");
        for (String[] both : EQUAL) {
            dueOrder(both[0], both[1], 0);
            dueOrder(both[1], both[0], 0);
        }
        for (String datum : RISING) {
            dueOrder(datum, datum, 0);
            due("compare of " + datum + " in one register", with(datum, "7E0").compare(0, 0), 0);
        }
    }

    private static void compareNothing() {
        sentence(4, "2 when one is NOTHING");
        for (String other : ANY) {
            dueOrder("NOTHING", other, 2);
            dueOrder(other, "NOTHING", 2);
        }
        due("compare of nothing in one register", with("NOTHING", "7E0").compare(0, 0), 2);
    }

    private static void dueOrder(String a, String b, int want) {
        DecimalWords x = with(a, b);
        x.trap(31);
        due("compare of " + a + " and " + b, x.compare(0, 1), want);
        due("flags of compare", x.flags(), 0);
        dueRegister("after compare", x, 0, a);
        dueRegister("after compare", x, 1, b);
    }
}
