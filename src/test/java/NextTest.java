/** The sentences about operation 6, NEXT, which promise 3 rests on. */
public final class NextTest extends Sentences {
    public static void main(String[] args) {
        begin("NextTest");
        registerB();
        noFlag();
        leastAbove();
        leastExponent();
        acrossPowersOfTen();
        aboveZero();
        minusZero();
        smallOnes();
        noFiniteOne();
        infinity();
        minusInfinity();
        nothing();
        end();
    }

    /** b is nothing each time, and all flags are traps: neither may matter. */
    private static void next(String a, String want) {
        for (int mode = EVEN; mode <= LOWER; mode++) {
            DecimalWords x = with(a, "NOTHING");
            x.mode(mode);
            x.trap(31);
            String thrown = thrown(x, y -> y.apply(NEXT, 2, 0, 1));
            dueText("next of " + a + " in mode " + mode, text(x, 2) + ", throws " + thrown
                    + ", flags " + x.flags(), want + ", throws nothing, flags 0");
        }
    }

    private static void registerB() {
        sentence(3, "(b, a register, does not matter, not even NOTHING");
        for (String b : new String[] {"NOTHING", "INF", "-INF", "0E0", "-" + MOST, "3E-7"}) {
            gives("5E0", NEXT, b, "5000000000000001E-15", 0);
            gives("INF", NEXT, b, "INF", 0);
        }
    }

    private static void noFlag() {
        sentence(3, "no flag is raised)");
        next("123E0", "1230000000000001E-13");
        next(MOST, "INF");
        next("-" + LEAST, "-0E-398");
        DecimalWords x = with("1E0", "3E0");
        x.apply(DIVIDE, 2, 0, 1);
        x.apply(NEXT, 3, 2, 0);
        due("flags that stood before", x.flags(), INEXACT);
    }

    private static void leastAbove() {
        sentence(3, "of what is above a the least number that a datum stands for");
        next("1E0", "1000000000000001E-15");
        next("9E0", "9000000000000001E-15");
        next("-9E0", "-8999999999999999E-15");
        next("-25E-1", "-2499999999999999E-15");
        next(FULL + "E0", "1000000000000001E0");
        next("9999999999999998E0", NINES + "E0");
        next("-" + NINES + "E0", "-9999999999999998E0");
        next("-" + MOST, "-9999999999999998E369");
        next("9999999999999998E369", MOST);
        next("1E369", "1000000000000001E354");
    }

    private static void leastExponent() {
        sentence(3, "with the least exponent that it can have");
        next("10E0", "1000000000000001E-14");
        next("1999999999999999E0", "2000000000000000E0");
        next("-2000000000000001E0", "-2000000000000000E0");
        next("1999E-398", "2000E-398");
        next("-2001E-398", "-2000E-398");
        next("1E-390", "100000001E-398");
        next("-1E-390", "-99999999E-398");
    }

    private static void acrossPowersOfTen() {
        sentence(3, "the least number that a datum stands for (at a power of ten)");
        next(NINES + "E0", FULL + "E1");
        next(NINES + "E368", FULL + "E369");
        next(NINES + "E-398", FULL + "E-397");
        next("-1E0", "-" + NINES + "E-16");
        next("-" + FULL + "E0", "-" + NINES + "E-1");
        next("-1E369", "-" + NINES + "E353");
        next("-" + FULL + "E-397", "-" + NINES + "E-398");
        next("-1E-382", "-" + NINES + "E-398");
        next("-" + FULL + "E-398", "-999999999999999E-398");
        next("-1E-383", "-999999999999999E-398");
        next("999999999999999E-398", FULL + "E-398");
        next("1E-383", "1000000000000001E-398");
    }

    private static void aboveZero() {
        sentence(3, "of what is above a the least number (a being 0)");
        for (String zero : new String[] {"0E0", "-0E0", "0E369", "-0E-398", "0E-398", "-0E369"}) {
            next(zero, LEAST);
        }
    }

    private static void minusZero() {
        sentence(3, "the sign - if it is 0");
        next("-" + LEAST, "-0E-398");
    }

    private static void smallOnes() {
        sentence(3, "with the least exponent that it can have (the numbers at the least exponent)");
        next(LEAST, "2E-398");
        next("9E-398", "10E-398");
        next("-2E-398", "-1E-398");
        next("-1E-397", "-9E-398");
        next("1E-397", "11E-398");
    }

    private static void noFiniteOne() {
        sentence(3, "the infinity if there is no finite one");
        next(MOST, "INF");
    }

    private static void infinity() {
        sentence(3, "the infinity if .. a is that");
        next("INF", "INF");
    }

    private static void minusInfinity() {
        sentence(3, "of what is above a the least number that a datum stands for (a being minus an infinity)");
        next("-INF", "-" + MOST);
    }

    private static void nothing() {
        sentence(3, "if one of the numbers is NOTHING, so is the result (for NEXT: a)");
        next("NOTHING", "NOTHING");
        gives("NOTHING", NEXT, "1E0", "NOTHING", 0);
    }
}
