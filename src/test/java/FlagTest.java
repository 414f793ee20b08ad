/** The sentences about modes, traps and flags as they are set and told: promises 3, 10, 11, 12 and 13. */
public final class FlagTest extends Sentences {
    /** Two numbers and an operation that raises just the flags. */
    private static final class Raising {
        final String a;
        final int operation;
        final String b;
        final int flags;

        Raising(String a, int operation, String b, int flags) {
            this.a = a;
            this.operation = operation;
            this.b = b;
            this.flags = flags;
        }

        void on(DecimalWords x) {
            x.apply(operation, 2, 0, 1);
        }
    }

    private static final Raising[] RAISING = {
        new Raising("INF", MULTIPLY, "0E0", INVALID),
        new Raising("1E0", DIVIDE, "0E0", BY_ZERO),
        new Raising(MOST, MULTIPLY, "-" + MOST, TOO_GREAT | INEXACT),
        new Raising(LEAST, MULTIPLY, LEAST, TOO_SMALL | INEXACT),
        new Raising("1E0", DIVIDE, "3E0", INEXACT),
        new Raising("1E0", ADD, "1E0", 0)
    };

    public static void main(String[] args) {
        begin("FlagTest");
        trapThrows();
        allThatItRaises();
        nothingElseChanges();
        noResultInOwnRegister();
        standingFlagsAreNoTraps();
        trapsOfOtherFlags();
        modeStays();
        lastModeHolds();
        trapEdges();
        fromNowOn();
        lastTrapsHold();
        sumOfFlags();
        raisedFlagsStay();
        tellingLeavesFlags();
        noOtherCallRaises();
        lowersAll();
        lowersNoMore();
        end();
    }

    private static DecimalWords of(Raising one) {
        DecimalWords x = with(one.a, one.b);
        set(x, 2, "-12345E67");
        return x;
    }

    private static void trapThrows() {
        sentence(3, "If one of those that an operation raises is a TRAP, ArithmeticException is thrown");
        for (Raising one : RAISING) {
            for (int traps = 0; traps < 32; traps++) {
                DecimalWords x = of(one);
                x.trap(traps);
                dueThrown("flags " + one.flags + " and traps " + traps, x,
                        (one.flags & traps) != 0 ? "ArithmeticException" : "nothing", one::on);
            }
        }
    }

    private static void allThatItRaises() {
        sentence(3, "all that it raises are flags then");
        for (Raising one : RAISING) {
            for (int traps = 0; traps < 32; traps++) {
                DecimalWords x = of(one);
                x.trap(traps);
                thrown(x, one::on);
                due("flags, the traps being " + traps, x.flags(), one.flags);
            }
        }
        DecimalWords x = of(RAISING[3]);
        x.apply(DIVIDE, 3, 1, 4);
        x.trap(TOO_SMALL);
        thrown(x, RAISING[3]::on);
        due("flags that stood, and those of the trap", x.flags(), BY_ZERO | TOO_SMALL | INEXACT);
    }

    private static void nothingElseChanges() {
        sentence(3, "and nothing else is changed");
        for (Raising one : RAISING) {
            for (int mode = EVEN; mode <= LOWER && one.flags != 0; mode++) {
                DecimalWords x = of(one);
                DecimalWords twin = of(one);
                for (DecimalWords each : new DecimalWords[] {x, twin}) {
                    each.mode(mode);
                    each.trap(one.flags);
                }
                thrown(x, one::on);
                x.lower();
                dueText("the registers", Look.registers(x), Look.registers(twin));
                dueText("mode " + mode + " and traps " + one.flags, Look.settings(x), Look.settings(twin));
            }
        }
    }

    private static void noResultInOwnRegister() {
        sentence(3, "and nothing else is changed (where d is a or b too)");
        for (Raising one : RAISING) {
            if (one.flags != 0) {
                DecimalWords x = of(one);
                x.trap(31);
                thrown(x, y -> y.apply(one.operation, 0, 0, 1));
                dueRegister("a, which is d", x, 0, one.a);
                thrown(x, y -> y.apply(one.operation, 1, 0, 1));
                dueRegister("b, which is d", x, 1, one.b);
            }
        }
    }

    private static void standingFlagsAreNoTraps() {
        sentence(3, "If one of those that an operation raises is a TRAP (those that stood before are none)");
        DecimalWords x = of(RAISING[4]);
        x.apply(DIVIDE, 3, 0, 1);
        due("flags before", x.flags(), INEXACT);
        x.trap(31);
        dueThrown("an exact sum", x, "nothing", y -> y.apply(ADD, 2, 0, 0));
        dueRegister("an exact sum", x, 2, "2E0");
        dueThrown("NEXT", x, "nothing", y -> y.apply(NEXT, 2, 0, 0));
        set(x, 2, "0E0");
        due("an exact sum of registers", x.sum(2, 0, 1), 0);
        dueRegister("an exact sum of registers", x, 2, "4E0");
    }

    private static void trapsOfOtherFlags() {
        sentence(11, "Which flags are traps");
        for (Raising one : RAISING) {
            DecimalWords x = of(one);
            x.trap(31 & ~one.flags);
            dueThrown("all traps but " + one.flags, x, "nothing", one::on);
        }
    }

    private static void modeStays() {
        sentence(10, "The mode (0 .. 4)");
        String[] due = {"-2E0", "-3E0", "-2E0", "-2E0", "-3E0"};
        String[] dueBelow = {"-2E0", "-2E0", "-2E0", "-2E0", "-3E0"};
        String[] dueAbove = {"3E0", "3E0", "2E0", "3E0", "2E0"};
        for (int mode = EVEN; mode <= LOWER; mode++) {
            DecimalWords x = with("-25E-1", "0E0");
            int m = mode;
            dueThrown("mode " + mode, x, "nothing", y -> y.mode(m));
            due("flags of mode " + mode, x.flags(), 0);
            dueQuantized(x, "-25E-1", due[mode]);
            dueQuantized(x, "-24E-1", dueBelow[mode]);
            dueQuantized(x, "26E-1", dueAbove[mode]);
            x.lower();
            dueQuantized(x, "-25E-1", due[mode]);
        }
    }

    private static void dueQuantized(DecimalWords x, String a, String want) {
        set(x, 0, a);
        x.apply(QUANTIZE, 2, 0, 1);
        dueRegister(a + " quantized", x, 2, want);
    }

    private static void lastModeHolds() {
        sentence(10, "The mode (the last one that was set)");
        String[] due = {"2E0", "3E0", "2E0", "3E0", "2E0"};
        DecimalWords x = with("25E-1", "0E0");
        for (int before = EVEN; before <= LOWER; before++) {
            for (int mode = EVEN; mode <= LOWER; mode++) {
                x.mode(before);
                x.mode(mode);
                dueQuantized(x, "25E-1", due[mode]);
            }
        }
    }

    private static void trapEdges() {
        sentence(11, "IllegalArgumentException: it is not 0 .. 31");
        DecimalWords x = of(RAISING[0]);
        dueThrown("trap 31", x, "nothing", y -> y.trap(31));
        dueThrown("with all traps", x, "ArithmeticException", RAISING[0]::on);
        dueThrown("trap 0", x, "nothing", y -> y.trap(0));
        dueThrown("with no traps", x, "nothing", RAISING[0]::on);
        dueThrown("trap 32", x, "IllegalArgumentException", y -> y.trap(32));
        dueThrown("trap -1", x, "IllegalArgumentException", y -> y.trap(-1));
    }

    private static void fromNowOn() {
        sentence(11, "for what is raised from now on");
        for (Raising one : RAISING) {
            DecimalWords x = of(one);
            one.on(x);
            dueThrown("a trap of a flag that stands", x, "nothing", y -> y.trap(31));
            due("the flag stands", x.flags(), one.flags);
            dueThrown("raised again", x, one.flags != 0 ? "ArithmeticException" : "nothing", one::on);
        }
    }

    private static void lastTrapsHold() {
        sentence(11, "Which flags are traps (those of the last call alone)");
        DecimalWords x = of(RAISING[4]);
        x.trap(INEXACT);
        x.trap(INVALID);
        dueThrown("no trap any more", x, "nothing", RAISING[4]::on);
    }

    private static void sumOfFlags() {
        sentence(12, "FLAGS: 1 INVALID, 2 BY ZERO, 4 TOO GREAT, 8 TOO SMALL, 16 INEXACT; told together as their sum");
        DecimalWords x = new DecimalWords();
        int[] due = {1, 3, 23, 31, 31, 31};
        for (int i = 0; i < RAISING.length; i++) {
            set(x, 0, RAISING[i].a);
            set(x, 1, RAISING[i].b);
            RAISING[i].on(x);
            due("flags after " + (i + 1), x.flags(), due[i]);
        }
        for (Raising one : RAISING) {
            DecimalWords y = of(one);
            one.on(y);
            due("flags", y.flags(), one.flags);
            one.on(y);
            due("flags raised twice", y.flags(), one.flags);
        }
    }

    private static void raisedFlagsStay() {
        sentence(12, "Flags that are RAISED stay till they are lowered");
        DecimalWords x = of(RAISING[1]);
        RAISING[1].on(x);
        set(x, 0, "1E0");
        set(x, 1, "1E0");
        x.apply(ADD, 2, 0, 1);
        x.apply(NEXT, 2, 0, 1);
        x.apply(LESSER, 2, 0, 1);
        x.sum(2, 0, 1);
        x.mode(LOWER);
        x.trap(31);
        x.unpack(2, 0, 0);
        x.pack(2, 1);
        x.compare(0, 1);
        thrown(x, y -> y.mode(9));
        thrown(x, y -> y.apply(9, 0, 0, 0));
        due("flags after calls of each kind", x.flags(), BY_ZERO);
    }

    private static void tellingLeavesFlags() {
        sentence(12, "The flags that were raised");
        DecimalWords x = of(RAISING[3]);
        RAISING[3].on(x);
        due("told", x.flags(), TOO_SMALL | INEXACT);
        due("told again", x.flags(), TOO_SMALL | INEXACT);
    }

    private static void noOtherCallRaises() {
        sentence(12, "The flags that were raised (no call but apply and sum raises one)");
        DecimalWords x = with("NOTHING", "-INF");
        x.mode(HIGHER);
        x.trap(31);
        x.put(2, true, 9999999999999999L, 369);
        x.unpack(3, 0, 7L << 61 | (1L << 51) - 1);
        x.unpack(4, 1, -1);
        for (int r = 0; r < 8; r++) {
            x.pack(r, 0);
            x.pack(r, 1);
            x.kind(r);
            x.coefficient(r);
            x.exponent(r);
            x.compare(r, 0);
            x.compare(1, r);
        }
        due("flags", x.flags(), 0);
    }

    private static void lowersAll() {
        sentence(13, "All flags are lowered");
        for (Raising one : RAISING) {
            DecimalWords x = of(one);
            one.on(x);
            x.lower();
            due("flags", x.flags(), 0);
            x.lower();
            due("flags lowered twice", x.flags(), 0);
            one.on(x);
            due("raised again", x.flags(), one.flags);
        }
        DecimalWords x = of(RAISING[2]);
        x.trap(31);
        thrown(x, RAISING[2]::on);
        x.lower();
        due("flags of a trap, lowered", x.flags(), 0);
    }

    private static void lowersNoMore() {
        sentence(13, "All flags are lowered (and no trap, no mode and no register is changed)");
        for (int traps = 0; traps < 32; traps++) {
            DecimalWords x = of(RAISING[4]);
            DecimalWords twin = of(RAISING[4]);
            for (DecimalWords each : new DecimalWords[] {x, twin}) {
                each.mode(traps % 5);
                each.trap(traps);
            }
            x.lower();
            dueText("the registers", Look.registers(x), Look.registers(twin));
            dueText("mode " + traps % 5 + " and traps " + traps, Look.settings(x), Look.settings(twin));
        }
    }
}
