/** The sentences about packing and unpacking: promises 8 and 9. */
public final class PackingTest extends Sentences {
    private static final int[] GREAT_AND_LAST = {8, 9};

    public static void main(String[] args) {
        begin("PackingTest");
        packSign();
        packInfinity();
        packNothing();
        packShortBinary();
        packLongBinary();
        packExponentBinary();
        packFirstDigitBelowEight();
        packFirstDigitFromEight();
        packExponentByDigits();
        packFiveGroups();
        packEachRow();
        packLeavesAll();
        unpackAny();
        unpackInfinity();
        unpackNothing();
        unpackShortBinary();
        unpackLongBinary();
        unpackTooGreatBinary();
        unpackExponents();
        unpackFirstDigit();
        unpackEachRow();
        unpackAllGreat();
        unpackSign();
        unpackOverAnything();
        backAgain();
        end();
    }

    /** The bits as a text, blanks between them being left out, with zeros in front. */
    private static long bits(String text) {
        return Long.parseUnsignedLong(text.replace(" ", ""), 2);
    }

    private static String zeros(int n) {
        return "0".repeat(n);
    }

    private static void packs(int way, String datum, String word) {
        DecimalWords x = new DecimalWords();
        set(x, 6, datum);
        due(datum + " packed by way " + way, x.pack(6, way), bits(word));
    }

    private static void unpacks(int way, String word, String datum) {
        DecimalWords x = new DecimalWords();
        x.put(6, true, 77, 7);
        x.unpack(6, way, bits(word));
        dueText(word + " unpacked by way " + way, text(x, 6), datum);
    }

    private static void both(int way, String datum, String word) {
        packs(way, datum, word);
        unpacks(way, word, datum);
    }

    private static void packSign() {
        sentence(8, "PACKED into 64 bits, bit 63 is 1 for the sign -");
        packs(0, "-5E-398", "1" + zeros(60) + "101");
        packs(0, "5E-398", "0" + zeros(60) + "101");
        packs(1, "-5E-398", "1" + zeros(60) + "101");
        packs(1, "5E-398", "0" + zeros(60) + "101");
        packs(0, "-0E-398", "1" + zeros(63));
        packs(1, "-0E-398", "1" + zeros(63));
    }

    private static void packInfinity() {
        sentence(8, "Infinities have 11110 in the bits 62 .. 58 and 0 behind");
        for (int way = 0; way < 2; way++) {
            packs(way, "INF", "0 11110" + zeros(58));
            packs(way, "-INF", "1 11110" + zeros(58));
            DecimalWords x = new DecimalWords();
            x.unpack(0, way, bits("0 11110" + "1".repeat(58)));
            due("an infinity with bits behind, by way " + way, x.pack(0, way), bits("0 11110" + zeros(58)));
        }
        DecimalWords x = with(MOST, "0E0");
        x.apply(DIVIDE, 0, 0, 1);
        due("an infinity where a number was", x.pack(0, 0), bits("0 11110" + zeros(58)));
        due("an infinity where a number was", x.pack(0, 1), bits("0 11110" + zeros(58)));
    }

    private static void packNothing() {
        sentence(8, "NOTHING has 11111 there and 0 elsewhere");
        for (int way = 0; way < 2; way++) {
            packs(way, "NOTHING", "0 11111" + zeros(58));
            DecimalWords x = new DecimalWords();
            x.unpack(0, way, -1);
            due("nothing of ones, by way " + way, x.pack(0, way), bits("0 11111" + zeros(58)));
            set(x, 1, "-INF");
            set(x, 2, "-0E5");
            x.apply(MULTIPLY, 2, 1, 2);
            due("nothing where -0 was", x.pack(2, way), bits("0 11111" + zeros(58)));
        }
    }

    private static void packShortBinary() {
        sentence(8, "c below 2^53: the bits 62 .. 53 are E, the others c");
        packs(0, "0E0", "0 0110001110" + zeros(53));
        packs(0, "9007199254740991E0", "0 0110001110" + "1".repeat(53));
        packs(0, "-9007199254740991E-398", "1 0000000000" + "1".repeat(53));
        packs(0, "4503599627370496E1", "0 0110001111 1" + zeros(52));
    }

    private static void packLongBinary() {
        sentence(8, "Else: the bits 62, 61 are 1, 60 .. 51 are E, the others c - 2^53");
        packs(0, "9007199254740992E0", "0 11 0110001110" + zeros(51));
        packs(0, "9007199254740993E0", "0 11 0110001110" + zeros(50) + "1");
        packs(0, "-9007199254740992E-398", "1 11 0000000000" + zeros(51));
        // 10^16 - 1 - 2^53 is 992800745259007.
        packs(0, NINES + "E0", "0 11 0110001110 0" + Long.toBinaryString(992800745259007L));
        packs(0, "-" + MOST, "1 11 1011111111 0" + Long.toBinaryString(992800745259007L));
    }

    private static void packExponentBinary() {
        sentence(8, "Let E be q + 398 (way 0)");
        packs(0, "1E-398", "0 0000000000" + zeros(52) + "1");
        packs(0, "1E-397", "0 0000000001" + zeros(52) + "1");
        packs(0, "1E369", "0 1011111111" + zeros(52) + "1");
        packs(0, "1E114", "0 1000000000" + zeros(52) + "1");
        packs(0, "1E113", "0 0111111111" + zeros(52) + "1");
        packs(0, "9007199254740992E369", "0 11 1011111111" + zeros(51));
        packs(0, "9007199254740992E114", "0 11 1000000000" + zeros(51));
    }

    private static void packFirstDigitBelowEight() {
        sentence(8, "d below 8: the bits 62, 61 are H, 60 .. 58 are d");
        packs(1, "7000000000000000E-398", "0 00 111 00000000" + zeros(50));
        packs(1, "-7000000000000000E0", "1 01 111 10001110" + zeros(50));
        packs(1, "7000000000000000E369", "0 10 111 11111111" + zeros(50));
        packs(1, "1000000000000000E0", "0 01 001 10001110" + zeros(50));
        packs(1, "0E0", "0 01 000 10001110" + zeros(50));
    }

    private static void packFirstDigitFromEight() {
        sentence(8, "Else: 62, 61 are 1, 60, 59 are H, 58 is d - 8");
        packs(1, "8000000000000000E-398", "0 11 00 0 00000000" + zeros(50));
        packs(1, "9000000000000000E-398", "0 11 00 1 00000000" + zeros(50));
        packs(1, "-8000000000000000E0", "1 11 01 0 10001110" + zeros(50));
        packs(1, "8000000000000000E369", "0 11 10 0 11111111" + zeros(50));
        packs(1, "-9000000000000000E369", "1 11 10 1 11111111" + zeros(50));
    }

    private static void packExponentByDigits() {
        sentence(8, "H be E / 256 (cut) .. The bits 57 .. 50 are E modulo 256");
        packs(1, "0E-398", "0 00 000 00000000" + zeros(50));
        packs(1, "0E-143", "0 00 000 11111111" + zeros(50));
        packs(1, "0E-142", "0 01 000 00000000" + zeros(50));
        packs(1, "0E113", "0 01 000 11111111" + zeros(50));
        packs(1, "0E114", "0 10 000 00000000" + zeros(50));
        packs(1, "0E369", "0 10 000 11111111" + zeros(50));
        packs(1, "9000000000000000E-142", "0 11 01 1 00000000" + zeros(50));
        packs(1, "9000000000000000E-143", "0 11 00 1 11111111" + zeros(50));
    }

    private static void packFiveGroups() {
        sentence(8, "Then five groups of ten bits for three digits each, the highest first");
        both(1, "1234567123456701E-398",
                "0 00 001 00000000 0100110100 1011100111 0010100011 1001010110 1110000001");
        both(1, "111000000000000E-398", "0 00 000 00000000 0010010001" + zeros(40));
        both(1, "111000E-398", zeros(14) + zeros(30) + "0010010001" + zeros(10));
        both(1, NINES + "E-398", "0 11 00 1 00000000" + "0011111111".repeat(5));
    }

    /** Each row of the table: its words, three digits of it, their ten bits. */
    private static final String[][] ROWS = {
        {"none: X Y 0 Z", "777", "111 111 0 111"},
        {"z: X Y 1 00 z", "769", "111 110 1 00 1"},
        {"y: X, the two higher bits of Z, y, 1 01, the lowest of Z", "593", "101 01 1 1 01 1"},
        {"x: the two higher of Z, x, Y, 1 10, the lowest of Z", "856", "11 0 101 1 10 0"},
        {"x, y: the two higher of Z, x, 00, y, 1 11, the lowest of Z", "985", "10 1 00 0 1 11 1"},
        {"x, z: the two higher of Y, x, 01, the lowest of Y, 1 11, z", "939", "01 1 01 1 1 11 1"},
        {"y, z: X, 10, y, 1 11, z", "698", "110 10 1 1 11 0"},
        {"all: 00 x 11 y 1 11 z", "989", "00 1 11 0 1 11 1"}
    };

    /** Which of the digits are 8 or 9, as the row's words begin. */
    private static String rowOf(int x, int y, int z) {
        String great = (x > 7 ? ", x" : "") + (y > 7 ? ", y" : "") + (z > 7 ? ", z" : "");
        return great.isEmpty() ? "none" : great.length() == 9 ? "all" : great.substring(2);
    }

    private static String threeBits(int digit) {
        return "" + digit / 4 % 2 + digit / 2 % 2 + digit % 2;
    }

    /** The ten bits of three digits by the table, row by row. */
    private static String tenBits(int x, int y, int z) {
        String bigX = threeBits(x);
        String bigY = threeBits(y);
        String bigZ = threeBits(z);
        int lastX = x % 2;
        int lastY = y % 2;
        int lastZ = z % 2;
        switch (rowOf(x, y, z)) {
            case "none":
                return bigX + bigY + "0" + bigZ;
            case "z":
                return bigX + bigY + "100" + lastZ;
            case "y":
                return bigX + bigZ.substring(0, 2) + lastY + "101" + lastZ;
            case "x":
                return bigZ.substring(0, 2) + lastX + bigY + "110" + lastZ;
            case "x, y":
                return bigZ.substring(0, 2) + lastX + "00" + lastY + "111" + lastZ;
            case "x, z":
                return bigY.substring(0, 2) + lastX + "01" + lastY + "111" + lastZ;
            case "y, z":
                return bigX + "10" + lastY + "111" + lastZ;
            default:
                return "00" + lastX + "11" + lastY + "111" + lastZ;
        }
    }

    private static boolean isOfRow(int n, String[] row) {
        return row[0].startsWith(rowOf(n / 100, n / 10 % 10, n % 10) + ":");
    }

    private static void packEachRow() {
        for (String[] row : ROWS) {
            sentence(8, row[0]);
            packs(1, row[1] + "E-398", zeros(54) + row[2]);
            for (int n = 0; n < 1000; n++) {
                if (isOfRow(n, row)) {
                    packs(1, n + "E-398", zeros(54) + tenBits(n / 100, n / 10 % 10, n % 10));
                }
            }
        }
    }

    private static void packLeavesAll() {
        sentence(8, "Register r, packed");
        DecimalWords x = new DecimalWords();
        x.trap(31);
        for (String datum : new String[] {"-" + MOST, "0E-398", "NOTHING", "-INF"}) {
            set(x, 3, datum);
            x.pack(3, 0);
            x.pack(3, 1);
            dueRegister("after pack", x, 3, datum);
        }
        due("flags of pack", x.flags(), 0);
    }

    private static void unpackAny() {
        sentence(9, "UNPACKED, by each way: any 64 bits are a datum");
        long word = 1;
        for (int i = 0; i < 4000; i++) {
            word = word * 6364136223846793005L + 1442695040888963407L;
            dueDatum(0, word ^ word >>> 29);
            dueDatum(1, word ^ word >>> 29);
        }
        for (int way = 0; way < 2; way++) {
            dueDatum(way, 0);
            dueDatum(way, -1);
            dueDatum(way, Long.MIN_VALUE);
            dueDatum(way, Long.MAX_VALUE);
        }
    }

    private static void dueDatum(int way, long word) {
        DecimalWords x = new DecimalWords();
        dueThrown("unpack of " + word + " by way " + way, x, "nothing", y -> y.unpack(0, way, word));
        long c = x.coefficient(0);
        int q = x.exponent(0);
        boolean datum = (x.kind(0) & 3) < 3 && c >= 0 && c < 10000000000000000L && q >= -398 && q <= 369;
        due("whether " + word + " is a datum by way " + way, datum ? 1 : 0, 1);
    }

    private static void unpackInfinity() {
        sentence(9, "11110 in the bits 62 .. 58: an infinity");
        for (int way = 0; way < 2; way++) {
            unpacks(way, "0 11110" + zeros(58), "INF");
            unpacks(way, "1 11110" + zeros(58), "-INF");
            unpacks(way, "0 11110" + "1".repeat(58), "INF");
            unpacks(way, "1 11110" + "1".repeat(58), "-INF");
            unpacks(way, "1 11110 1" + zeros(57), "-INF");
            unpacks(way, "0 11110" + zeros(57) + "1", "INF");
        }
    }

    private static void unpackNothing() {
        sentence(9, "11111: NOTHING");
        for (int way = 0; way < 2; way++) {
            unpacks(way, "0 11111" + zeros(58), "NOTHING");
            unpacks(way, "1 11111" + zeros(58), "NOTHING");
            unpacks(way, "0 11111" + "1".repeat(58), "NOTHING");
            unpacks(way, "1 11111" + "1".repeat(58), "NOTHING");
            unpacks(way, "0 11111 1" + zeros(57), "NOTHING");
        }
    }

    private static void unpackShortBinary() {
        sentence(9, "otherwise as above (way 0, c below 2^53)");
        unpacks(0, zeros(64), "0E-398");
        unpacks(0, "0 0110001110" + "1".repeat(53), "9007199254740991E0");
        unpacks(0, "1 1011111111" + "1".repeat(53), "-9007199254740991E369");
        unpacks(0, "0 1011111111 1" + zeros(52), "4503599627370496E369");
        unpacks(0, "0 1010000000" + zeros(53), "0E242");
    }

    private static void unpackLongBinary() {
        sentence(9, "otherwise as above (way 0, c from 2^53 on)");
        unpacks(0, "0 11 0110001110" + zeros(51), "9007199254740992E0");
        unpacks(0, "1 11 1011111111" + zeros(51), "-9007199254740992E369");
        unpacks(0, "0 11 0000000000" + zeros(50) + "1", "9007199254740993E-398");
        unpacks(0, "0 11 0110001110 0" + Long.toBinaryString(992800745259007L), NINES + "E0");
    }

    private static void unpackTooGreatBinary() {
        sentence(9, "a coefficient of way 0 above 10^16 - 1 stands for 0");
        unpacks(0, "0 11 0110001110 0" + Long.toBinaryString(992800745259008L), "0E0");
        unpacks(0, "1 11 0110001111 0" + Long.toBinaryString(992800745259008L), "-0E1");
        unpacks(0, "1 11 1011111111" + "1".repeat(51), "-0E369");
        unpacks(0, "0 11 0000000000 1" + zeros(50), "0E-398");
        unpacks(0, "1 11 1011111111 0" + Long.toBinaryString(992800745259007L), "-" + MOST);
    }

    private static void unpackExponents() {
        sentence(9, "otherwise as above (E from 0 to 767)");
        int[] exponents = {-398, -397, -143, -142, -1, 0, 113, 114, 368, 369};
        String[] sizes = {"0E", "7E", "7000000000000007E", "9007199254740992E", NINES + "E", "8000000000000000E"};
        for (int q : exponents) {
            for (String size : sizes) {
                for (int way = 0; way < 2; way++) {
                    DecimalWords x = new DecimalWords();
                    set(x, 0, "-" + size + q);
                    x.unpack(1, way, x.pack(0, way));
                    dueRegister("packed and unpacked by way " + way, x, 1, "-" + size + q);
                }
            }
        }
        unpacks(1, "0 10 000 11111111" + zeros(50), "0E369");
        unpacks(1, "0 11 10 0 11111111" + zeros(50), "8000000000000000E369");
        unpacks(1, "0 11 01 0 00000000" + zeros(50), "8000000000000000E-142");
        unpacks(1, "0 00 000 11111111" + zeros(50), "0E-143");
    }

    private static void unpackFirstDigit() {
        sentence(9, "otherwise as above (way 1, d below 8, and 8 or 9)");
        unpacks(1, "0 01 111 10001110" + zeros(50), "7000000000000000E0");
        unpacks(1, "0 01 000 10001110" + zeros(50), "0E0");
        unpacks(1, "1 11 01 0 10001110" + zeros(50), "-8000000000000000E0");
        unpacks(1, "1 11 01 1 10001110" + zeros(50), "-9000000000000000E0");
        unpacks(1, "0 11 00 1 00000000" + zeros(50), "9000000000000000E-398");
    }

    private static void unpackEachRow() {
        for (String[] row : ROWS) {
            sentence(9, "otherwise as above (way 1, " + row[0] + ")");
            unpacks(1, zeros(54) + row[2], row[1] + "E-398");
            for (int n = 0; n < 1000; n++) {
                if (isOfRow(n, row)) {
                    unpacks(1, zeros(54) + tenBits(n / 100, n / 10 % 10, n % 10), n + "E-398");
                }
            }
        }
    }

    private static void unpackAllGreat() {
        sentence(9, "in way 1 the first two of ten bits do not matter when x, y and z are 8 or 9");
        String[] firstTwo = {"00", "01", "10", "11"};
        for (int x : GREAT_AND_LAST) {
            for (int y : GREAT_AND_LAST) {
                for (int z : GREAT_AND_LAST) {
                    for (String first : firstTwo) {
                        dueInEachPlace(first + tenBits(x, y, z).substring(2), "" + x + y + z);
                    }
                }
            }
        }
        unpacks(1, "0 11 00 1 00000000" + "1111111111".repeat(5), NINES + "E-398");
        DecimalWords x = new DecimalWords();
        x.unpack(0, 1, bits(zeros(54) + "1101101110"));
        due("888 packed again, the first two being 0", x.pack(0, 1), bits(zeros(54) + "0001101110"));
    }

    private static void dueInEachPlace(String ten, String digits) {
        for (int place = 0; place < 5; place++) {
            unpacks(1, zeros(14) + zeros(10 * (4 - place)) + ten + zeros(10 * place),
                    digits + zeros(3 * place) + "E-398");
        }
    }

    private static void unpackSign() {
        sentence(9, "bit 63 is 1 for the sign -");
        unpacks(0, "1" + zeros(63), "-0E-398");
        unpacks(1, "1" + zeros(63), "-0E-398");
        unpacks(0, "0" + zeros(61) + "11", "3E-398");
        unpacks(1, "1" + zeros(61) + "11", "-3E-398");
    }

    private static void unpackOverAnything() {
        sentence(9, "Register r becomes the datum that is unpacked");
        String[] data = {"-INF", "NOTHING", "-" + MOST, "0E0"};
        for (String before : data) {
            for (String after : data) {
                for (int way = 0; way < 2; way++) {
                    DecimalWords x = with(before, after);
                    x.trap(31);
                    x.unpack(0, way, x.pack(1, way));
                    dueRegister(after + " unpacked over " + before, x, 0, after);
                    dueRegister("the one that was packed", x, 1, after);
                    due("flags of unpack", x.flags(), 0);
                }
            }
        }
    }

    private static void backAgain() {
        sentence(9, "Register r becomes the datum that is unpacked (by the one way, packed by the other)");
        DecimalWords x = new DecimalWords();
        x.unpack(0, 0, bits("0 11 0110001110" + zeros(51)));
        due("2^53 by digits", x.pack(0, 1), bits("0 11 01 1 10001110"
                + tenBits(0, 0, 7) + tenBits(1, 9, 9) + tenBits(2, 5, 4) + tenBits(7, 4, 0) + tenBits(9, 9, 2)));
        x.unpack(0, 1, bits("1 00 001 00000000" + zeros(50)));
        due("-10^15 * 10^-398 in binary", x.pack(0, 0), Long.MIN_VALUE | 1000000000000000L);
    }
}
