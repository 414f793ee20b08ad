/** Many runs of calls, the same on the program and on the model: each answer must be the same. */
public final class ModelTest {
    private static final int RUNS = 1500;
    private static final int STEPS = 80;
    private static final long[] TENS = new long[17];
    private static final Check CHECK = new Check("ModelTest");

    private long seed;
    private DecimalWords program;
    private Model model;
    private StringBuilder story;
    private final int[] lastExponent = new int[8];

    public static void main(String[] args) {
        TENS[0] = 1;
        for (int i = 1; i < 17; i++) {
            TENS[i] = TENS[i - 1] * 10;
        }
        int runs = args.length > 1 ? Integer.parseInt(args[1]) : RUNS;
        int from = args.length > 2 ? Integer.parseInt(args[2]) : 0;
        ModelTest test = new ModelTest();
        for (int run = from; run < from + runs; run++) {
            test.run(run);
        }
        test.groups();
        test.edges();
        CHECK.end();
    }

    /** The same numbers each time: a generator of our own, begun anew for each run. */
    private int below(int bound) {
        seed = seed * 6364136223846793005L + 1442695040888963407L;
        return (int) ((seed >>> 33) % bound);
    }

    private long anyLong() {
        return ((long) below(1 << 22) << 42) ^ ((long) below(1 << 22) << 21) ^ below(1 << 22);
    }

    private void run(int number) {
        seed = number * 7919L + 17;
        below(2);
        program = new DecimalWords();
        model = new Model();
        story = new StringBuilder("run " + number + ": ");
        java.util.Arrays.fill(lastExponent, 0);
        int style = below(6);
        for (int step = 0; step < STEPS; step++) {
            step(style);
        }
        for (int r = 0; r < 8; r++) {
            look(r);
        }
    }

    private void step(int style) {
        int what = below(100);
        if (what < 35) {
            putSome(style);
        } else if (what < 42) {
            unpackSome();
        } else if (what < 48) {
            call("mode", below(12) == 0 ? below(9) - 2 : below(5), 0, 0, 0);
        } else if (what < 52) {
            call("trap", below(3) > 0 ? 0 : below(40) - 2, 0, 0, 0);
        } else if (what < 55) {
            call("lower", 0, 0, 0, 0);
        } else if (what < 58) {
            call("sum", register(), register(), register(), 0);
        } else if (what < 63) {
            call("pack", register(), below(8) == 0 ? below(5) - 1 : below(2), 0, 0);
        } else if (what < 70) {
            call("compare", register(), register(), 0, 0);
        } else {
            int operation = below(40) == 0 ? below(12) - 3 : below(7);
            int d = register();
            call("apply", operation, d, register(), register());
            look(d);
        }
        CHECK.due(story + "flags()", program.flags(), model.flags());
    }

    private int register() {
        return below(60) == 0 ? below(20) - 6 : below(8);
    }

    private void putSome(int style) {
        int r = register();
        boolean minus = below(2) == 0;
        long c = below(50) == 0 ? anyLong() : coefficient();
        int q = below(50) == 0 ? below(1000) - 500 : exponent(style);
        story.append("put(" + r + ", " + minus + ", " + c + "L, " + q + "); ");
        String want = answer(() -> {
            model.put(r, minus, c, q);
            return 0;
        });
        String got = answer(() -> {
            program.put(r, minus, c, q);
            return 0;
        });
        CHECK.dueText(story.toString(), got, want);
        if (want.equals("0")) {
            lastExponent[below(8)] = q;
            look(r);
        }
    }

    private long coefficient() {
        int n = below(17);
        switch (below(9)) {
            case 0:
                return below(12);
            case 1:
                return TENS[Math.min(n, 15)];
            case 2:
                return TENS[n] - 1;
            case 3:
                return 5 * TENS[Math.min(n, 15)] + below(3) - 1;
            case 4:
                return TENS[16] - 1 - below(3);
            case 5:
                return Math.abs(anyLong() % TENS[8]) * TENS[below(9)];
            case 6:
                return Math.max(0, (1L << below(54)) - below(2));
            default:
                return Math.abs(anyLong() % TENS[Math.max(1, n)]);
        }
    }

    /** By the style of a run the exponents stand near one another, or at one of the edges. */
    private int exponent(int style) {
        switch (below(8) == 0 ? below(6) : style) {
            case 0:
                return below(40) - 20;
            case 1:
                return -398 + below(30);
            case 2:
                return 369 - below(40);
            case 3:
                return -210 + below(30);
            case 4:
                return Math.max(-398, Math.min(369, lastExponent[below(8)] + below(80) - 40));
            default:
                return below(768) - 398;
        }
    }

    private void unpackSome() {
        int r = register();
        int way = below(10) == 0 ? below(5) - 1 : below(2);
        long bits = anyLong();
        if (below(4) == 0) {
            bits |= 3L << 61;
        }
        if (below(8) == 0) {
            bits |= 15L << 59;
        }
        long given = bits;
        story.append("unpack(" + r + ", " + way + ", " + given + "L); ");
        String want = answer(() -> {
            model.unpack(r, way, given);
            return 0;
        });
        String got = answer(() -> {
            program.unpack(r, way, given);
            return 0;
        });
        CHECK.dueText(story.toString(), got, want);
        look(r);
    }

    private void call(String name, int a, int b, int c, int d) {
        story.append(name + "(" + a + ", " + b + ", " + c + ", " + d + "); ");
        CHECK.dueText(story.toString(), ofProgram(name, a, b, c, d), ofModel(name, a, b, c, d));
    }

    private String ofProgram(String name, int a, int b, int c, int d) {
        return answer(() -> {
            switch (name) {
                case "mode": program.mode(a); return 0;
                case "trap": program.trap(a); return 0;
                case "lower": program.lower(); return 0;
                case "sum": return program.sum(a, b, c);
                case "pack": return program.pack(a, b);
                case "compare": return program.compare(a, b);
                default: program.apply(a, b, c, d); return 0;
            }
        });
    }

    private String ofModel(String name, int a, int b, int c, int d) {
        return answer(() -> {
            switch (name) {
                case "mode": model.mode(a); return 0;
                case "trap": model.trap(a); return 0;
                case "lower": model.lower(); return 0;
                case "sum": return model.sum(a, b, c);
                case "pack": return model.pack(a, b);
                case "compare": return model.compare(a, b);
                default: model.apply(a, b, c, d); return 0;
            }
        });
    }

    private interface Call {
        long made();
    }

    private static String answer(Call call) {
        try {
            return Long.toString(call.made());
        } catch (RuntimeException e) {
            return e.getClass().getName();
        }
    }

    private void look(int r) {
        CHECK.dueText(story + "kind(" + r + ")", answer(() -> program.kind(r)), answer(() -> model.kind(r)));
        CHECK.dueText(story + "coefficient(" + r + ")", answer(() -> program.coefficient(r)),
                answer(() -> model.coefficient(r)));
        CHECK.dueText(story + "exponent(" + r + ")", answer(() -> program.exponent(r)),
                answer(() -> model.exponent(r)));
    }

    /** Each group of three digits and each of ten bits, in each of the five places. */
    private void groups() {
        for (int place = 0; place < 5; place++) {
            for (int n = 0; n < 1024; n++) {
                program = new DecimalWords();
                model = new Model();
                story = new StringBuilder("groups: ");
                long bits = 0x2238000000000000L | (long) n << (10 * place);
                program.unpack(0, 1, bits);
                model.unpack(0, 1, bits);
                story.append("unpack(0, 1, " + bits + "L); ");
                look(0);
                call("pack", 0, 1, 0, 0);
            }
        }
    }

    /** Numbers at the edges of digits and halves, with exponents that bring results to every edge. */
    private void edges() {
        long[] sizes = {
            0, 1, 2, 3, 5, 7, 9, 10, 49, 50, 51, 99, TENS[8], TENS[8] - 1, TENS[15] - 1, TENS[15],
            TENS[15] + 1, 5 * TENS[15] - 1, 5 * TENS[15], 5 * TENS[15] + 1, 5 * TENS[14] - 1,
            TENS[16] - 2, TENS[16] - 1, 1234567890123456L
        };
        for (int mode = 0; mode < 5; mode++) {
            for (long a : sizes) {
                for (long b : sizes) {
                    seed = a * 31 + b + mode;
                    edgeSums(mode, a, b);
                    edgeProducts(mode, a, b);
                }
                for (int q = 0; q < 20; q++) {
                    edge(mode, 6, a, q - 398, 0, 0);
                    edge(mode, 6, a, 369 - q, 0, 0);
                }
            }
        }
    }

    private void edgeSums(int mode, long a, long b) {
        for (int gap = 0; gap < 36; gap++) {
            int q = below(700) - 398;
            edge(mode, below(2), a, Math.min(369, q + gap), b, q);
            edge(mode, below(2), a, q, b, Math.min(369, q + gap));
        }
        edge(mode, below(2), a, 369, b, 369 - below(20));
        edge(mode, 4, a, below(2) == 0 ? 5 : -390, b, below(40) - 398);
        edge(mode, 4, a, below(20), b, below(40) - 5);
    }

    private void edgeProducts(int mode, long a, long b) {
        for (int i = 0; i < 20; i++) {
            int small = -432 + below(50);
            int great = 340 + below(34);
            int q = below(300) - 150;
            edge(mode, 2, a, small / 2 + i, b, small - small / 2 - i);
            edge(mode, 2, a, great - q, b, q);
            edge(mode, 3, a, small / 2 + i, b, i - small + small / 2);
            edge(mode, 3, a, Math.min(369, great - 150), b, 150 - below(180));
        }
    }

    private void edge(int mode, int operation, long a, int qa, long b, int qb) {
        if (qa < -398 || qa > 369 || qb < -398 || qb > 369) {
            return;
        }
        program = new DecimalWords();
        model = new Model();
        story = new StringBuilder("edges: ");
        place(0, below(2) == 0, a, qa);
        place(1, below(2) == 0, b, qb);
        call("mode", mode, 0, 0, 0);
        call("apply", operation, 2, 0, 1);
        look(2);
        call("compare", 0, 1, 0, 0);
        CHECK.due(story + "flags()", program.flags(), model.flags());
    }

    private void place(int r, boolean minus, long c, int q) {
        story.append("put(" + r + ", " + minus + ", " + c + "L, " + q + "); ");
        program.put(r, minus, c, q);
        model.put(r, minus, c, q);
    }
}
