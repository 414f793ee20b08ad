/** The sentences about modes and about what it is to fit a number, which promise 3 rests on. */
public final class FitTest extends Sentences {
    public static void main(String[] args) {
        begin("FitTest");
        even();
        away();
        cut();
        higher();
        lower();
        hairs();
        fitsWish();
        wishTooLow();
        wishTooHigh();
        wishOutOfRange();
        lastThatFits();
        inexact();
        leastOfSixteenDigits();
        greatestOfSixteenDigits();
        wishDoesNotMatterWhenRounded();
        leastExponentHolds();
        tenToSixteen();
        noTenToSixteenAtTheLeastExponent();
        tooGreatBySize();
        tooGreatByRounding();
        tooGreatByMode();
        tooGreatOfFewDigits();
        tooSmall();
        notTooSmallFromTheLimitOn();
        notTooSmallWhenExact();
        smallestOfAll();
        zeroWish();
        zeroWishTooLow();
        zeroWishTooHigh();
        end();
    }

    private static void even() {
        sentence(3, "0 EVEN (to the nearest, a half to the even one; at first)");
        for (String sign : new String[] {"", "-"}) {
            gives(sign + FULL + "E0", ADD, sign + "5E-1", sign + FULL + "E0", INEXACT);
            gives(sign + "1000000000000001E0", ADD, sign + "5E-1", sign + "1000000000000002E0", INEXACT);
            gives(sign + FULL + "E0", ADD, sign + "4E-1", sign + FULL + "E0", INEXACT);
            gives(sign + FULL + "E0", ADD, sign + "6E-1", sign + "1000000000000001E0", INEXACT);
            gives(sign + "25E-1", QUANTIZE, "0E0", sign + "2E0", INEXACT);
            gives(sign + "35E-1", QUANTIZE, "0E0", sign + "4E0", INEXACT);
            gives(sign + "5E-1", QUANTIZE, "0E0", sign + "0E0", INEXACT);
        }
    }

    private static void away() {
        sentence(3, "1 AWAY (to the nearest, a half away from 0)");
        for (String sign : new String[] {"", "-"}) {
            gives(AWAY, sign + FULL + "E0", ADD, sign + "5E-1", sign + "1000000000000001E0", INEXACT);
            gives(AWAY, sign + "1000000000000001E0", ADD, sign + "5E-1", sign + "1000000000000002E0", INEXACT);
            gives(AWAY, sign + FULL + "E0", ADD, sign + "4E-1", sign + FULL + "E0", INEXACT);
            gives(AWAY, sign + FULL + "E0", ADD, sign + "6E-1", sign + "1000000000000001E0", INEXACT);
            gives(AWAY, sign + "25E-1", QUANTIZE, "0E0", sign + "3E0", INEXACT);
            gives(AWAY, sign + "5E-1", QUANTIZE, "0E0", sign + "1E0", INEXACT);
            gives(AWAY, sign + "4E-1", QUANTIZE, "0E0", sign + "0E0", INEXACT);
        }
    }

    private static void cut() {
        sentence(3, "2 CUT (towards 0)");
        for (String sign : new String[] {"", "-"}) {
            gives(CUT, sign + FULL + "E0", ADD, sign + NINES + "E-16", sign + FULL + "E0", INEXACT);
            gives(CUT, sign + FULL + "E0", ADD, sign + LEAST, sign + FULL + "E0", INEXACT);
            gives(CUT, sign + "29E-1", QUANTIZE, "0E0", sign + "2E0", INEXACT);
            gives(CUT, sign + NINES + "E-16", QUANTIZE, "0E0", sign + "0E0", INEXACT);
        }
        gives(CUT, FULL + "E0", SUBTRACT, LEAST, NINES + "E-1", INEXACT);
        gives(CUT, "-" + FULL + "E0", ADD, LEAST, "-" + NINES + "E-1", INEXACT);
    }

    private static void higher() {
        sentence(3, "3 HIGHER (not below)");
        gives(HIGHER, FULL + "E0", ADD, LEAST, "1000000000000001E0", INEXACT);
        gives(HIGHER, FULL + "E0", SUBTRACT, LEAST, FULL + "E0", INEXACT);
        gives(HIGHER, "-" + FULL + "E0", SUBTRACT, NINES + "E-16", "-" + FULL + "E0", INEXACT);
        gives(HIGHER, "-" + FULL + "E0", ADD, LEAST, "-" + NINES + "E-1", INEXACT);
        gives(HIGHER, LEAST, QUANTIZE, "0E0", "1E0", INEXACT);
        gives(HIGHER, "-" + NINES + "E-16", QUANTIZE, "0E0", "-0E0", INEXACT);
    }

    private static void lower() {
        sentence(3, "4 LOWER (not above)");
        gives(LOWER, FULL + "E0", ADD, NINES + "E-16", FULL + "E0", INEXACT);
        gives(LOWER, FULL + "E0", SUBTRACT, LEAST, NINES + "E-1", INEXACT);
        gives(LOWER, "-" + FULL + "E0", SUBTRACT, LEAST, "-1000000000000001E0", INEXACT);
        gives(LOWER, "-" + FULL + "E0", ADD, LEAST, "-" + FULL + "E0", INEXACT);
        gives(LOWER, NINES + "E-16", QUANTIZE, "0E0", "0E0", INEXACT);
        gives(LOWER, "-" + LEAST, QUANTIZE, "0E0", "-1E0", INEXACT);
    }

    private static void hairs() {
        sentence(3, "m is |x| / 10^e rounded by the mode (of x, with its sign) to a whole number");
        // 4090909090909090.5 and a hair more, 5909090909090909.5 and a hair less.
        gives(EVEN, "3181818181818182E0", DIVIDE, "7777777777777779E0", "4090909090909091E-16", INEXACT);
        gives(EVEN, "4595959595959597E0", DIVIDE, "7777777777777779E0", "5909090909090909E-16", INEXACT);
        gives(AWAY, "4595959595959597E0", DIVIDE, "7777777777777779E0", "5909090909090909E-16", INEXACT);
        gives(EVEN, FULL + "E0", ADD, "5000000000000001E-16", "1000000000000001E0", INEXACT);
        gives(AWAY, FULL + "E0", ADD, "4999999999999999E-16", FULL + "E0", INEXACT);
        // Below a power of ten sixteen digits end one place later: less a half there, or a hair more.
        gives(EVEN, FULL + "E0", SUBTRACT, "5E-2", FULL + "E0", INEXACT);
        gives(EVEN, FULL + "E0", SUBTRACT, "5000000000000001E-17", NINES + "E-1", INEXACT);
        gives(EVEN, FULL + "E17", SUBTRACT, "4999999999999995E0", FULL + "E17", INEXACT);
        gives(EVEN, FULL + "E17", SUBTRACT, "5000000000000005E0", NINES + "E16", INEXACT);
        gives(EVEN, FULL + "E1", SUBTRACT, "15E-1", "9999999999999998E0", INEXACT);
        gives(EVEN, FULL + "E1", SUBTRACT, "1499999999999999E-15", NINES + "E0", INEXACT);
        givesByMode("-" + FULL + "E300", SUBTRACT, LEAST, new String[] {
            "-" + FULL + "E300", "-" + FULL + "E300", "-" + FULL + "E300", "-" + FULL + "E300",
            "-1000000000000001E300"}, INEXACT);
    }

    private static void fitsWish() {
        sentence(3, "if x is c * 10^q with a coefficient and exponents as above, it is the one of these whose q "
                + "is nearest to the wish");
        givesInAll("123E-2", ADD, "77E-1", "893E-2", 0);
        givesInAll("1E0", ADD, "0E-15", FULL + "E-15", 0);
        givesInAll("-12E3", MULTIPLY, "100E-5", "-1200E-2", 0);
        givesInAll("600E0", DIVIDE, "3E2", "200E-2", 0);
        givesInAll("100E0", DIVIDE, "10E0", "10E0", 0);
        givesInAll("1E-398", ADD, "1E-398", "2E-398", 0);
        givesInAll(NINES + "E369", SUBTRACT, "1E369", "9999999999999998E369", 0);
        for (int n = 0; n < 16; n++) {
            givesInAll("1E0", ADD, "0E-" + n, "1" + "0".repeat(n) + "E" + -n, 0);
        }
    }

    private static void wishTooLow() {
        sentence(3, "it is the one of these whose q is nearest to the wish (which is too low for sixteen digits)");
        givesInAll("1E0", ADD, "0E-16", FULL + "E-15", 0);
        givesInAll("3E7", ADD, "-0E-398", "3000000000000000E-8", 0);
        givesInAll(NINES + "E0", ADD, "1E0", FULL + "E1", 0);
        givesInAll(FULL + "E0", MULTIPLY, FULL + "E0", FULL + "E15", 0);
        givesInAll("4000000000000000E0", MULTIPLY, "25E0", FULL + "E2", 0);
        givesInAll("50000000E0", MULTIPLY, "200000000E0", FULL + "E1", 0);
        givesInAll("77160493132716E0", MULTIPLY, "160000E0", "1234567890123456E4", 0);
        givesInAll("1234567890123450E4", ADD, "60000E0", "1234567890123456E4", 0);
    }

    private static void wishTooHigh() {
        sentence(3, "it is the one of these whose q is nearest to the wish (which is too high for a whole "
                + "coefficient)");
        givesInAll("1E0", DIVIDE, "8E0", "125E-3", 0);
        givesInAll("1E0", DIVIDE, "1024E0", "9765625E-10", 0);
        givesInAll("10E0", DIVIDE, "8E0", "125E-2", 0);
        givesInAll("1E0", DIVIDE, FULL + "E0", "1E-15", 0);
        givesInAll("7E369", DIVIDE, "2E0", "35E368", 0);
    }

    private static void wishOutOfRange() {
        sentence(3, "it is the one of these whose q is nearest to the wish (which is below -398 or above 369)");
        givesInAll("5000E-200", MULTIPLY, "20E-200", "1000E-398", 0);
        givesInAll("10E-200", MULTIPLY, "1E-199", "1E-398", 0);
        givesInAll("1000E-200", MULTIPLY, "1E-201", "1E-398", 0);
        givesInAll("3E200", MULTIPLY, "2E170", "60E369", 0);
        givesInAll("100E-398", DIVIDE, "1E1", "10E-398", 0);
        givesInAll("3E369", DIVIDE, "1E-3", "3000E369", 0);
    }

    private static void lastThatFits() {
        sentence(3, "if x is c * 10^q with a coefficient and exponents as above (the greatest and the least ones)");
        givesInAll("1E200", MULTIPLY, "1E184", FULL + "E369", 0);
        givesInAll("9E200", MULTIPLY, "1E184", "9000000000000000E369", 0);
        givesInAll("-1E-200", MULTIPLY, "1E-198", "-1E-398", 0);
        givesInAll(NINES + "E0", MULTIPLY, "1E369", MOST, 0);
        givesInAll("9999999999999998E369", ADD, "1E369", MOST, 0);
        givesInAll(FULL + "E-398", DIVIDE, FULL + "E0", LEAST, 0);
    }

    private static void inexact() {
        sentence(3, "Otherwise INEXACT is raised");
        gives("1000000000000000E1", ADD, "1E0", FULL + "E1", INEXACT);
        gives("1E0", DIVIDE, "3E0", "3333333333333333E-16", INEXACT);
        gives("2E0", DIVIDE, "-3E0", "-6666666666666667E-16", INEXACT);
        gives("100000001E0", MULTIPLY, "100000001E0", "1000000020000000E1", INEXACT);
        gives("1E-397", MULTIPLY, "11E-2", "1E-398", INEXACT | TOO_SMALL);
        gives("1E0", DIVIDE, NINES + "E0", FULL + "E-31", INEXACT);
    }

    private static void leastOfSixteenDigits() {
        sentence(3, "the exponent for which |x| / 10^e is from 10^15");
        gives(FULL + "E0", ADD, "4E-1", FULL + "E0", INEXACT);
        gives(FULL + "E0", SUBTRACT, "44E-2", "9999999999999996E-1", INEXACT);
        gives(CUT, FULL + "E0", SUBTRACT, LEAST, NINES + "E-1", INEXACT);
        gives(CUT, FULL + "E0", ADD, LEAST, FULL + "E0", INEXACT);
    }

    private static void greatestOfSixteenDigits() {
        sentence(3, "to below 10^16");
        gives(NINES + "E0", ADD, "4E-1", NINES + "E0", INEXACT);
        gives(CUT, NINES + "E0", ADD, NINES + "E-16", NINES + "E0", INEXACT);
        gives(CUT, NINES + "E0", ADD, "11E-1", FULL + "E1", INEXACT);
        gives(HIGHER, NINES + "E0", ADD, "11E-1", "1000000000000001E1", INEXACT);
    }

    private static void wishDoesNotMatterWhenRounded() {
        sentence(3, "Otherwise it is m * 10^e with the sign");
        gives("1E20", ADD, "1E0", FULL + "E5", INEXACT);
        gives(CUT, "3E20", SUBTRACT, "-1E-7", "3000000000000000E5", INEXACT);
        gives("-1E20", ADD, "-1E0", "-" + FULL + "E5", INEXACT);
        gives(AWAY, "2999999999999999E0", ADD, "5E-1", "3000000000000000E0", INEXACT);
    }

    private static void leastExponentHolds() {
        sentence(3, "e is the greater of -398 and the exponent");
        gives("123456789E-200", MULTIPLY, "1E-201", "123457E-398", INEXACT | TOO_SMALL);
        gives(NINES + "E-200", MULTIPLY, "1E-213", "10E-398", INEXACT | TOO_SMALL);
        gives(CUT, NINES + "E-200", MULTIPLY, "1E-213", "9E-398", INEXACT | TOO_SMALL);
        gives(NINES + "E-210", MULTIPLY, NINES + "E-210", "10000000000E-398", INEXACT | TOO_SMALL);
        gives(CUT, NINES + "E-210", MULTIPLY, NINES + "E-210", "9999999999E-398", INEXACT | TOO_SMALL);
        // 271186440677964.50000000000000001 units.
        gives("2711864406779661E-208", MULTIPLY, "9999999999999941E-207", "271186440677965E-398",
                INEXACT | TOO_SMALL);
        gives("1E-183", DIVIDE, "3E200", "333333333333333E-398", INEXACT | TOO_SMALL);
        gives("10E-183", DIVIDE, "3E200", "3333333333333333E-398", INEXACT);
        gives("10E-182", DIVIDE, "3E200", "3333333333333333E-397", INEXACT);
    }

    private static void tenToSixteen() {
        sentence(3, "if that is 10^16, m is 10^15 and e one more");
        String next = FULL + "E1";
        String same = NINES + "E0";
        givesByMode(NINES + "E0", ADD, "5E-1", new String[] {next, next, same, next, same}, INEXACT);
        givesByMode("-" + NINES + "E0", ADD, "-5E-1",
                new String[] {"-" + next, "-" + next, "-" + same, "-" + same, "-" + next}, INEXACT);
        givesByMode(NINES + "E0", ADD, "6E-1", new String[] {next, next, same, next, same}, INEXACT);
        givesByMode(NINES + "E0", ADD, LEAST, new String[] {same, same, same, next, same}, INEXACT);
    }

    private static void noTenToSixteenAtTheLeastExponent() {
        sentence(3, "if that is 10^16 (10^15 at the least exponent is not)");
        gives(NINES + "E-200", MULTIPLY, "1E-199", FULL + "E-398", INEXACT | TOO_SMALL);
        gives(HIGHER, "-" + NINES + "E-200", MULTIPLY, "1E-199", "-999999999999999E-398", INEXACT | TOO_SMALL);
    }

    private static void tooGreatBySize() {
        sentence(3, "If e is above 369, TOO GREAT is raised, and it is the infinity with the sign");
        for (int mode = EVEN; mode <= AWAY; mode++) {
            gives(mode, MOST, ADD, "1E369", "INF", TOO_GREAT | INEXACT);
            gives(mode, "-" + MOST, SUBTRACT, "1E369", "-INF", TOO_GREAT | INEXACT);
            gives(mode, MOST, MULTIPLY, "-" + MOST, "-INF", TOO_GREAT | INEXACT);
            gives(mode, MOST, DIVIDE, LEAST, "INF", TOO_GREAT | INEXACT);
            gives(mode, "1E200", MULTIPLY, "1000000000000001E170", "INF", TOO_GREAT | INEXACT);
        }
    }

    private static void tooGreatByRounding() {
        sentence(3, "m is 10^15 and e one more .. If e is above 369, TOO GREAT is raised");
        int great = TOO_GREAT | INEXACT;
        gives(EVEN, MOST, ADD, "5E368", "INF", great);
        gives(EVEN, MOST, ADD, "4999999999999999E353", MOST, INEXACT);
        gives(AWAY, MOST, ADD, "5E368", "INF", great);
        gives(AWAY, MOST, ADD, "4999999999999999E353", MOST, INEXACT);
        gives(CUT, MOST, ADD, NINES + "E353", MOST, INEXACT);
        gives(HIGHER, MOST, ADD, LEAST, "INF", great);
        gives(LOWER, MOST, ADD, NINES + "E353", MOST, INEXACT);
        gives(EVEN, "-" + MOST, SUBTRACT, "5E368", "-INF", great);
        gives(AWAY, "-" + MOST, SUBTRACT, "5E368", "-INF", great);
        gives(CUT, "-" + MOST, SUBTRACT, NINES + "E353", "-" + MOST, INEXACT);
        gives(HIGHER, "-" + MOST, SUBTRACT, NINES + "E353", "-" + MOST, INEXACT);
        gives(LOWER, "-" + MOST, SUBTRACT, LEAST, "-INF", great);
        gives(EVEN, "9999999999999998E369", ADD, "9E368", MOST, INEXACT);
    }

    private static void tooGreatByMode() {
        sentence(3, "but (10^16 - 1) * 10^369 with the sign in mode CUT, in HIGHER if x is below 0, and in "
                + "LOWER if it is above");
        int great = TOO_GREAT | INEXACT;
        String[] plus = {"INF", "INF", MOST, "INF", MOST};
        String[] minus = {"-INF", "-INF", "-" + MOST, "-" + MOST, "-INF"};
        givesByMode(MOST, ADD, "1E369", plus, great);
        givesByMode("-" + MOST, ADD, "-1E369", minus, great);
        givesByMode("-" + MOST, MULTIPLY, "-" + MOST, plus, great);
        givesByMode("-" + MOST, MULTIPLY, "3E1", minus, great);
        givesByMode("1E369", DIVIDE, "3E-30", plus, great);
        givesByMode("-1E369", DIVIDE, "3E-30", minus, great);
    }

    private static void tooGreatOfFewDigits() {
        sentence(3, "Otherwise INEXACT is raised, and .. If e is above 369, TOO GREAT is raised (of few digits too)");
        int great = TOO_GREAT | INEXACT;
        givesByMode("1E200", MULTIPLY, "1E185", new String[] {"INF", "INF", MOST, "INF", MOST}, great);
        givesByMode("1E369", DIVIDE, "-1E-398",
                new String[] {"-INF", "-INF", "-" + MOST, "-" + MOST, "-INF"}, great);
    }

    private static void tooSmall() {
        sentence(3, "if |x| is below 10^-383, TOO SMALL is raised");
        int small = TOO_SMALL | INEXACT;
        String below = "999999999999999E-398";
        String limit = FULL + "E-398";
        // 10^-383 less half a unit, and less a tenth of one: rounded to 10^-383 it was still below.
        givesByMode("1999999999999999E-398", MULTIPLY, "5E-1",
                new String[] {limit, limit, below, limit, below}, small);
        givesByMode("-1999999999999999E-398", MULTIPLY, "5E-1",
                new String[] {"-" + limit, "-" + limit, "-" + below, "-" + below, "-" + limit}, small);
        givesByMode(NINES + "E-398", MULTIPLY, "1E-1", new String[] {limit, limit, below, limit, below}, small);
        givesByMode("3E-398", MULTIPLY, "5E-1",
                new String[] {"2E-398", "2E-398", "1E-398", "2E-398", "1E-398"}, small);
    }

    private static void notTooSmallFromTheLimitOn() {
        sentence(3, "if |x| is below 10^-383 (what is not below it)");
        String limit = FULL + "E-398";
        String above = "1000000000000001E-398";
        givesByMode("2000000000000001E-398", MULTIPLY, "5E-1",
                new String[] {limit, above, limit, above, limit}, INEXACT);
        givesByMode("-2000000000000001E-398", MULTIPLY, "5E-1",
                new String[] {"-" + limit, "-" + above, "-" + limit, "-" + limit, "-" + above}, INEXACT);
        givesInAll("10E-200", MULTIPLY, "1E-184", "10E-384", 0);
        givesInAll("2E-383", MULTIPLY, "5E-1", "10E-384", 0);
    }

    private static void notTooSmallWhenExact() {
        sentence(3, "Otherwise .. TOO SMALL is raised (not if x is c * 10^q)");
        givesInAll("10E-398", MULTIPLY, "5E-1", "5E-398", 0);
        givesInAll("1E-398", MULTIPLY, "1E0", "1E-398", 0);
        givesInAll("1E-398", SUBTRACT, "3E-398", "-2E-398", 0);
        givesInAll(LEAST, DIVIDE, "1E0", LEAST, 0);
        givesInAll("999999999999999E-398", ADD, "0E0", "999999999999999E-398", 0);
    }

    private static void smallestOfAll() {
        sentence(3, "Otherwise it is m * 10^e with the sign (m being 0 or 1)");
        int small = TOO_SMALL | INEXACT;
        String no = "0E-398";
        String one = "1E-398";
        givesByMode(LEAST, MULTIPLY, LEAST, new String[] {no, no, no, one, no}, small);
        givesByMode("-" + LEAST, MULTIPLY, LEAST,
                new String[] {"-" + no, "-" + no, "-" + no, "-" + no, "-" + one}, small);
        givesByMode(LEAST, MULTIPLY, "5E-1", new String[] {no, one, no, one, no}, small);
        givesByMode(LEAST, MULTIPLY, "4999999999999999E-16", new String[] {no, no, no, one, no}, small);
        givesByMode(LEAST, MULTIPLY, "5000000000000001E-16", new String[] {one, one, no, one, no}, small);
        givesByMode(LEAST, DIVIDE, "-" + MOST,
                new String[] {"-" + no, "-" + no, "-" + no, "-" + no, "-" + one}, small);
        givesByMode(LEAST, DIVIDE, "2E0", new String[] {no, one, no, one, no}, small);
        givesByMode(NINES + "E-215", MULTIPLY, NINES + "E-215", new String[] {one, one, no, one, no}, small);
        givesByMode(NINES + "E-216", MULTIPLY, NINES + "E-215", new String[] {no, no, no, one, no}, small);
    }

    private static void zeroWish() {
        sentence(3, "TO FIT 0 with a sign: the exponent is the wish");
        givesInAll("0E-200", MULTIPLY, "5E-198", "0E-398", 0);
        givesInAll("-0E200", MULTIPLY, "5E169", "-0E369", 0);
        givesInAll("0E3", MULTIPLY, "-5E4", "-0E7", 0);
        givesInAll("0E-200", DIVIDE, "5E198", "0E-398", 0);
        givesInAll("0E200", DIVIDE, "5E-169", "0E369", 0);
        givesInAll("0E7", ADD, "0E-5", "0E-5", 0);
    }

    private static void zeroWishTooLow() {
        sentence(3, "but -398 if that is less");
        givesInAll("0E-200", MULTIPLY, "5E-199", "0E-398", 0);
        givesInAll("-0E-398", MULTIPLY, LEAST, "-0E-398", 0);
        givesInAll("0E-200", DIVIDE, "5E199", "0E-398", 0);
        givesInAll("0E-398", DIVIDE, "-5E369", "-0E-398", 0);
    }

    private static void zeroWishTooHigh() {
        sentence(3, "369 if it is more");
        givesInAll("0E200", MULTIPLY, "5E170", "0E369", 0);
        givesInAll("-0E369", MULTIPLY, MOST, "-0E369", 0);
        givesInAll("0E200", DIVIDE, "5E-170", "0E369", 0);
        givesInAll("0E369", DIVIDE, "-5E-398", "-0E369", 0);
    }
}
