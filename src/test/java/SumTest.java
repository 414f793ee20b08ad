/** The sentences about sum, promise 14. */
public final class SumTest extends Sentences {
    public static void main(String[] args) {
        begin("SumTest");
        firstToLast();
        oneRegister();
        allRegisters();
        firstAboveLast();
        oneAfterTheOther();
        eachIsRounded();
        fitAndFlags();
        zeroSums();
        dAmongThem();
        dFirstAndLast();
        leftOut();
        leftOutFlags();
        leftOutDIsKept();
        allLeftOut();
        howMany();
        noneLeftOut();
        infinitiesAndNothing();
        end();
    }

    /** The numbers in the registers 0, 1, 2 .. of a new object. */
    private static DecimalWords of(String... data) {
        DecimalWords x = new DecimalWords();
        for (int r = 0; r < data.length; r++) {
            set(x, r, data[r]);
        }
        return x;
    }

    private static void dueSum(DecimalWords x, int d, int first, int last, String want, int leftOut, int flags) {
        String what = "sum(" + d + ", " + first + ", " + last + ")";
        due(what, x.sum(d, first, last), leftOut);
        dueRegister(what, x, d, want);
        due(what + ": flags", x.flags(), flags);
    }

    private static void firstToLast() {
        sentence(14, "The registers first, first + 1, .. to last are added to register d");
        DecimalWords x = of("1E0", "20E0", "300E0", "4000E0", "50000E0", "600000E0", "7000000E0", "80000000E0");
        dueSum(x, 0, 2, 5, "654301E0", 0, 0);
        for (int r = 1; r < 8; r++) {
            dueRegister("a register that is read", x, r, (r + 1) + "0".repeat(r) + "E0");
        }
    }

    private static void oneRegister() {
        sentence(14, "The registers first .. to last (first being last)");
        DecimalWords x = of("1E0", "20E0", "300E0", "4000E0", "50000E0", "600000E0", "7000000E0", "80000000E0");
        dueSum(x, 0, 1, 1, "21E0", 0, 0);
        dueSum(x, 0, 7, 7, "80000021E0", 0, 0);
        dueSum(x, 7, 0, 0, "160000021E0", 0, 0);
    }

    private static void allRegisters() {
        sentence(14, "The registers first .. to last (0 to 7)");
        DecimalWords x = of("1E0", "20E0", "300E0", "4000E0", "50000E0", "600000E0", "7000000E0", "80000000E0");
        dueSum(x, 7, 0, 7, "175308642E0", 0, 0);
    }

    private static void firstAboveLast() {
        sentence(14, "(Nothing is added if first is above last, all three being registers.");
        DecimalWords x = of("1E0", "20E0", "300E0");
        x.trap(31);
        dueSum(x, 0, 2, 1, "1E0", 0, 0);
        dueSum(x, 0, 7, 0, "1E0", 0, 0);
        dueSum(x, 2, 1, 0, "300E0", 0, 0);
        set(x, 0, "NOTHING");
        dueSum(x, 2, 1, 0, "300E0", 0, 0);
    }

    private static void oneAfterTheOther() {
        sentence(14, "one after the other by operation 0");
        DecimalWords rising = of("0E0", "4E-1", "4E-1", NINES + "E0");
        dueSum(rising, 0, 1, 3, FULL + "E1", 0, INEXACT);
        DecimalWords falling = of("0E0", NINES + "E0", "4E-1", "4E-1");
        dueSum(falling, 0, 1, 3, NINES + "E0", 0, INEXACT);
        DecimalWords first = of("1E0", "INF", "-INF", "5E0");
        first.trap(INVALID);
        dueSum(first, 0, 1, 3, "INF", 1, INVALID);
        DecimalWords other = of("1E0", "-INF", "INF", "5E0");
        other.trap(INVALID);
        dueSum(other, 0, 1, 3, "-INF", 1, INVALID);
    }

    private static void eachIsRounded() {
        sentence(14, "one after the other by operation 0 (each sum being fit by the mode)");
        String[] due = {FULL + "E0", "1000000000000003E0", FULL + "E0", "1000000000000003E0", FULL + "E0"};
        for (int mode = EVEN; mode <= LOWER; mode++) {
            DecimalWords x = of(FULL + "E0", "5E-1", "5E-1", "5E-1");
            x.mode(mode);
            dueSum(x, 0, 1, 3, due[mode], 0, INEXACT);
        }
    }

    private static void fitAndFlags() {
        sentence(14, "by operation 0 (its wish, its flags)");
        dueSum(of("1E0", "2E2", "0E-3"), 0, 1, 2, "201000E-3", 0, 0);
        dueSum(of(MOST, "1E369", "-INF"), 0, 1, 1, "INF", 0, TOO_GREAT | INEXACT);
        dueSum(of(MOST, "1E369", "-INF"), 0, 1, 2, "NOTHING", 0, INVALID | TOO_GREAT | INEXACT);
        DecimalWords x = of("1E0", "0E0");
        x.apply(DIVIDE, 7, 0, 1);
        dueSum(x, 0, 0, 1, "2E0", 0, BY_ZERO);
    }

    private static void zeroSums() {
        sentence(14, "by operation 0 (the sign of a 0)");
        for (int mode = EVEN; mode <= LOWER; mode++) {
            DecimalWords x = of("5E0", "-5E0", "-0E0");
            x.mode(mode);
            dueSum(x, 0, 1, 2, mode == LOWER ? "-0E0" : "0E0", 0, 0);
            set(x, 0, "-0E0");
            dueSum(x, 0, 2, 2, "-0E0", 0, 0);
        }
    }

    private static void dAmongThem() {
        sentence(14, "Register d may be among them; each is read when it is added.)");
        DecimalWords x = of("1E0", "20E0", "300E0", "4000E0");
        // 300 and 1 and 20 are 321, twice that 642, and 4000.
        dueSum(x, 2, 0, 3, "4642E0", 0, 0);
        dueRegister("a register before d", x, 1, "20E0");
        dueRegister("a register behind d", x, 3, "4000E0");
    }

    private static void dFirstAndLast() {
        sentence(14, "Register d may be among them (the first, the last, the only one)");
        dueSum(of("1E0", "20E0", "300E0"), 0, 0, 2, "322E0", 0, 0);
        dueSum(of("1E0", "20E0", "300E0"), 2, 0, 2, "642E0", 0, 0);
        dueSum(of("1E0", "20E0", "300E0"), 1, 1, 1, "40E0", 0, 0);
    }

    private static void leftOut() {
        sentence(14, "where that throws, what is added is left out instead");
        DecimalWords x = of("1E0", "1E-30", "20E0", "1E-31", "300E0");
        x.trap(INEXACT);
        dueSum(x, 0, 1, 4, "321E0", 2, INEXACT);
        DecimalWords great = of(MOST, "1E369", "-9E369", "1E369");
        great.trap(TOO_GREAT);
        dueSum(great, 0, 1, 3, "9999999999999991E369", 1, TOO_GREAT | INEXACT);
        DecimalWords last = of("1E0", "20E0", "1E-30");
        last.trap(INEXACT);
        dueSum(last, 0, 1, 2, "21E0", 1, INEXACT);
    }

    private static void leftOutFlags() {
        sentence(14, "is left out instead (its flags are raised)");
        DecimalWords x = of(MOST, "1E369", "INF", "-INF");
        x.trap(INVALID | TOO_GREAT);
        dueSum(x, 0, 1, 1, MOST, 1, TOO_GREAT | INEXACT);
        dueSum(x, 0, 2, 3, "INF", 1, INVALID | TOO_GREAT | INEXACT);
    }

    private static void leftOutDIsKept() {
        sentence(14, "what is added is left out instead (d itself being added)");
        DecimalWords x = of("9000000000000000E369", "-1E369");
        x.trap(TOO_GREAT);
        dueSum(x, 0, 0, 1, "8999999999999999E369", 1, TOO_GREAT | INEXACT);
    }

    private static void allLeftOut() {
        sentence(14, "is left out instead .. How many were left out (all of them)");
        DecimalWords x = of("1E-30", "1E-30", "1E-30", "1E-30", "1E-30", "1E-30", "1E-30", "1E-30");
        set(x, 3, NINES + "E0");
        x.trap(31);
        // Twice register 3 has no sixteen digits: it is left out too.
        dueSum(x, 3, 0, 7, NINES + "E0", 8, INEXACT);
    }

    private static void howMany() {
        sentence(14, "How many were left out");
        for (int n = 0; n < 8; n++) {
            DecimalWords x = of("1E0", "2E0", "2E0", "2E0", "2E0", "2E0", "2E0", "2E0");
            for (int r = 1; r <= n; r++) {
                set(x, r, "1E-40");
            }
            x.trap(INEXACT);
            dueSum(x, 0, 1, 7, (1 + 2 * (7 - n)) + "E0", n, n > 0 ? INEXACT : 0);
        }
    }

    private static void noneLeftOut() {
        sentence(14, "where that throws (and not where a flag is raised that is no trap)");
        DecimalWords x = of("1E0", "1E-30", "20E0");
        x.trap(31 & ~INEXACT);
        dueSum(x, 0, 1, 2, "2100000000000000E-14", 0, INEXACT);
    }

    private static void infinitiesAndNothing() {
        sentence(14, "are added to register d .. by operation 0 (infinities, NOTHING)");
        DecimalWords x = of("1E0", "INF", "5E0", "INF");
        x.trap(31);
        dueSum(x, 0, 1, 3, "INF", 0, 0);
        set(x, 2, "NOTHING");
        set(x, 3, "-INF");
        dueSum(x, 0, 1, 3, "NOTHING", 0, 0);
        DecimalWords none = of("1E0", "INF", "-INF", "5E0");
        dueSum(none, 0, 1, 3, "NOTHING", 0, INVALID);
    }
}
