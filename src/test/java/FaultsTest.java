/** Frames built bit by bit: each fault, the last input without it, and which of two comes first. */
public final class FaultsTest {
    private static final String ONE_16 = "000000000 0 00 1111";
    private static int wrong = 0;
    private static int calls = 0;

    private static void due(String call, long got, long want) {
        calls++;
        if (got != want) {
            wrong++;
            System.out.println(call + " answered " + got + ", due is " + want);
        }
    }

    private static String bits(int v, int count) {
        StringBuilder s = new StringBuilder();
        for (int i = count - 1; i >= 0; i--) {
            s.append(v >> i & 1);
        }
        return s.toString();
    }

    private static int crc(int s, int b) {
        int all = s ^ b;
        for (int i = 0; i < 8; i++) {
            all = (all & 128) != 0 ? (all << 1 ^ 7) & 255 : all << 1;
        }
        return all;
    }

    private static String padded(String spaced) {
        StringBuilder s = new StringBuilder(spaced.replace(" ", ""));
        while (s.length() % 8 != 0) {
            s.append('0');
        }
        return s.toString();
    }

    private static int sumOf(String whole) {
        int s = 0;
        for (int i = 0; i < whole.length(); i += 8) {
            s = crc(s, Integer.parseInt(whole.substring(i, i + 8), 2));
        }
        return s;
    }

    private static SamplePacks stream(String whole) {
        SamplePacks x = new SamplePacks();
        for (int i = 0; i < whole.length(); i += 8) {
            x.add(Integer.parseInt(whole.substring(i, i + 8), 2));
        }
        return x;
    }

    /** A good frame with its sum: opens, and with any byte fewer is at its end too early. */
    private static SamplePacks good(String spaced, int n) {
        String whole = padded(spaced);
        SamplePacks x = stream(whole + bits(sumOf(whole), 8));
        due("open of " + spaced, x.open(0), n);
        due("frames of " + spaced, x.frames(), 1);
        due("shown(4) of " + spaced, x.shown(4), whole.length() / 8 + 1);
        for (int size = x.size() - 1; size > 0; size--) {
            x.cut(size);
            due("open of " + size + " bytes of " + spaced, x.open(0), -11);
            due("frames of " + size + " bytes of " + spaced, x.frames(), -10);
        }
        return x;
    }

    /** A fault that shows with or without what comes behind these bits, and with a right sum. */
    private static void bad(String spaced, int fault) {
        String whole = padded(spaced);
        due("open of " + spaced, stream(whole).open(0), -10 - fault);
        due("open of it with its sum", stream(whole + bits(sumOf(whole), 8)).open(0), -10 - fault);
        due("open of it with more", stream(whole + "1".repeat(800)).open(0), -10 - fault);
        due("frames of it", stream(whole).frames(), -10);
    }

    private static void dueRow(SamplePacks x, int channel, int... want) {
        for (int i = 0; i < want.length; i++) {
            int got;
            try {
                got = x.got(channel, i);
            } catch (ArrayIndexOutOfBoundsException e) {
                got = 1 << 20;
            }
            due("got(" + channel + ", " + i + ")", got, want[i]);
        }
    }

    private static void heads() {
        // one byte: even where n is already too great, the number is not all there
        due("open of one byte", stream("11111111").open(0), -11);
        due("open of one byte", stream("00000000").open(0), -11);
        bad(bits(400, 9) + " 0 00 1111", 2);
        bad(bits(511, 9) + " 0 11 1111", 2);
        good(bits(399, 9) + " 0 00 0000  000 0000 1", 400);
        bad("000000000 0 01 1111", 3);
        bad("000000000 0 10 1111", 3);
        bad("000000000 0 11 1111", 3);
        due("open of a head", stream(padded("000000000 1 11 1111")).open(0), -11);
    }

    private static void wasted() {
        // w of 1 with one bit, and the last w that may be, of each depth
        bad("000000000 0 00 0000  000 0001", 4);
        for (int depth = 1; depth <= 15; depth++) {
            String head = "000000000 0 00 " + bits(depth - 1, 4);
            bad(head + " 001 " + bits(depth, 4), 4);
            bad(head + " 111 1111", 4);
            SamplePacks x = good(head + " 001 " + bits(depth - 1, 4) + " 1", 1);
            dueRow(x, 0, -(1 << (depth - 1)));
        }
        SamplePacks x = good(ONE_16 + " 000 1111 1", 1);
        dueRow(x, 0, -32768);
        // a side has one bit more: w 1 with DEPTH 1; the channel has not
        x = good("000000000 1 01 0000  000 0000 0  000 0001 0", 1);
        dueRow(x, 1, 0);
        bad("000000000 1 01 0000  000 0000 0  000 0010", 4);
        bad("000000000 1 01 0000  000 0001", 4);
        good("000000000 1 10 0000  000 0001 0  000 0000 0", 1);
        bad("000000000 1 10 0000  000 0001 0  000 0001", 4);
        bad("000000000 1 11 0000  000 0001", 4);
        good("000000000 1 11 0000  000 0000 0  000 0001 0", 1);
        bad("000000000 1 00 0000  000 0000 0  000 0001", 4);
        // w ahead of the order
        bad("000000000 0 00 0000  110 0001", 4);
    }

    private static void orders() {
        for (int o = 2; o <= 4; o++) {
            bad(bits(o - 2, 9) + " 0 00 1111  " + bits(o + 2, 3) + " 0000", 5);
            // where w does not end, the order does not show
            String values = " 0000000000000001".repeat(o);
            good(bits(o - 1, 9) + " 0 00 1111  " + bits(o + 2, 3) + " 0000" + values + " 000 0000", o);
            bad(bits(o - 2, 9) + " 0 00 1111  111 0000 " + bits(o - 1, 2), 5);
            good(bits(o - 1, 9) + " 0 00 1111  111 0000 " + bits(o - 1, 2) + " 0011"
                + " 1000000001".repeat(o) + values + " 000 0000", o);
        }
        good(ONE_16 + " 011 0000 0000000000000001 000 0000", 1);
        good(ONE_16 + " 111 0000 00 0000 0000000001 0000000000000001 000 0000", 1);
    }

    private static void parts() {
        for (int p = 5; p <= 7; p++) {
            bad(bits(127, 9) + " 0 00 1111  010 0000 " + bits(p, 3), 6);
        }
        // 2^p divides n
        good(bits(15, 9) + " 0 00 1111  010 0000 100" + " 0000 0".repeat(16), 16);
        bad(bits(7, 9) + " 0 00 1111  010 0000 100", 6);
        bad(bits(23, 9) + " 0 00 1111  010 0000 100", 6);
        good(bits(23, 9) + " 0 00 1111  010 0000 011" + " 0000 000".repeat(8), 24);
        bad(ONE_16 + " 010 0000 001", 6);
        // n / 2^p is o or more
        good(bits(3, 9) + " 0 00 1111  100 0000" + " 0000000000000001".repeat(2) + " 001 0000 0000 00", 4);
        bad(bits(3, 9) + " 0 00 1111  101 0000" + " 0000000000000001".repeat(3) + " 001", 6);
        bad(bits(1, 9) + " 0 00 1111  111 0000 01 0000" + " 0000000000".repeat(2)
            + " 0000000000000001".repeat(2) + " 001", 6);
        good(bits(1, 9) + " 0 00 1111  111 0000 00 0000 0000000000 0000000000000001 001 0000 0000 0", 2);
    }

    private static void widths() {
        for (int x = 25; x <= 31; x++) {
            bad(ONE_16 + " 010 0000 000 1111 " + bits(x, 5), 7);
            // a part without rests has its x, too
            bad(ONE_16 + " 011 0000 0000000000000001 000 1111 " + bits(x, 5), 7);
        }
        for (int x = 0; x <= 24; x++) {
            SamplePacks s = good(ONE_16 + " 010 0000 000 1111 " + bits(x, 5) + " " + bits(-1, x), 1);
            dueRow(s, 0, x == 0 ? 0 : -1);
            good(ONE_16 + " 011 0000 0000000000000001 000 1111 " + bits(x, 5), 1);
        }
        // the second part's
        bad(bits(1, 9) + " 0 00 1111  010 0000 001 0000 0 1111 11001", 7);
    }

    private static void values() {
        // DEPTH 4: -8 .. 7; rests of 8 bits
        String head = "000000001 0 00 0011  010 0000 000 1111 01000 ";
        dueRow(good(head + bits(7, 8) + bits(-8, 8), 2), 0, 7, -8);
        bad(head + bits(8, 8), 8);
        bad(head + bits(-9, 8), 8);
        bad(head + bits(7, 8) + bits(-128, 8), 8);
        // what was wasted has no room: w 2 leaves -2 .. 1
        head = "000000001 0 00 0011  010 0010 000 1111 01000 ";
        dueRow(good(head + bits(1, 8) + bits(-2, 8), 2), 0, 4, -8);
        bad(head + bits(2, 8), 8);
        bad(head + bits(0, 8) + bits(-3, 8), 8);
        // foretold and rest together: 7 and 1, and 7 and -15
        head = "000000001 0 00 0011  011 0000 0111 000 ";
        bad(head + "0000 110", 8);
        dueRow(good(head + "0011 111 0 101", 2), 0, 7, -8);
        bad(head + "0011 111 0 111", 8);
        // a side has room for one bit more
        head = "000000000 1 01 0011  000 0000 0111  010 0000 000 1111 01000 ";
        dueRow(good(head + bits(15, 8), 1), 1, -8);
        bad(head + bits(16, 8), 8);
        // the value is known behind its last bit alone
        due("open", stream(padded(ONE_16 + " 010 0000 000 1111 11000 0111111111111111111")).open(0), -11);
    }

    private static void foldedRests() {
        // 40 bits of head, so that the 1s end with a byte
        String head = "000000001 0 00 1001  011 0000 0000000001 000 ";
        for (int k = 11; k <= 14; k++) {
            int many = 1 << (24 - k);
            String telling = (head + bits(k, 4) + "1".repeat(many)).replace(" ", "");
            due("bits of k " + k, telling.length() % 8, 0);
            // the last 1 tells, before another bit is wanted; one byte fewer does not
            bad(telling, 8);
            String fewer = telling.substring(0, telling.length() - 8);
            due("open of fewer 1s, k " + k, stream(fewer).open(0), -11);
            // one 1 fewer: the value tells, but behind all of its bits
            String one = fewer + "11111110";
            due("open of one 1 fewer, k " + k, stream(one).open(0), -11);
            due("open of it with a byte, k " + k, stream(one + "00000000").open(0), -11);
            bad(one + bits(0, k), 8);
        }
        // with a low k the stream ends before 2^24 shows
        String start = padded(head + "0000");
        due("open of 1s alone", stream(start + "1".repeat(8 * 2395)).open(0), -11);
    }

    private static void ends() {
        // 16 + 7 + 16 bits: one bit up to the byte
        String row = ONE_16 + " 000 0000 0010011100010001";
        good(row, 1);
        bad(row + "1", 9);
        // behind the padding: a sum that is not there, or another one
        String whole = padded(row);
        due("open without a sum", stream(whole).open(0), -11);
        for (int flip = 1; flip < 256; flip++) {
            due("open with another sum", stream(whole + bits(sumOf(whole) ^ flip, 8)).open(0), -20);
        }
        // each of seven bits
        for (int i = 0; i < 7; i++) {
            bad("000000000 0 00 1001  000 0000 0111011101" + bits(64 >> i, 7), 9);
        }
        // nothing to fill up
        good("000000000 0 00 1000  000 0000 011101110", 1);
    }

    private static void turnedSamples() {
        // DEPTH 4. turn 1: channel 1 is 0 less the side
        dueRow(good("000000000 1 01 0011  000 0000 0111  000 0000 01111", 1), 1, -8);
        last("000000000 1 01 0011  000 0000 0111  000 0000 10000");
        last("000000000 1 01 0011  000 0000 0111  000 0000 11111");
        last("000000000 1 01 0011  000 0000 1000  000 0000 00001");
        dueRow(good("000000000 1 01 0011  000 0000 1000  000 0000 10001", 1), 1, 7);
        // turn 2: channel 0 is the side and channel 1
        dueRow(good("000000000 1 10 0011  000 0000 01111  000 0000 1000", 1), 0, 7);
        last("000000000 1 10 0011  000 0000 01111  000 0000 1001");
        last("000000000 1 10 0011  000 0000 11111  000 0000 1000");
        // turn 3: middle 7: side 0, 1 is 8 and 7: too great, -1 is 7 and 8
        dueRow(good("000000000 1 11 0011  000 0000 0111  000 0000 00000", 1), 0, 7);
        last("000000000 1 11 0011  000 0000 0111  000 0000 00001");
        last("000000000 1 11 0011  000 0000 0111  000 0000 11111");
        SamplePacks x = good("000000000 1 11 0011  000 0000 1111  000 0000 01111", 1);
        dueRow(x, 0, 7);
        dueRow(x, 1, -8);
        x = good("000000000 1 11 0011  000 0000 1111  000 0000 10001", 1);
        dueRow(x, 0, -8);
        dueRow(x, 1, 7);
        x = good("000000000 1 11 0011  000 0000 1110  000 0000 00011", 1);
        dueRow(x, 0, 0);
        dueRow(x, 1, -3);
        last("000000000 1 11 0011  000 0000 1111  000 0000 10000");
    }

    /** Fault 11 with a right sum, but 10 with another one, and 1 without any. */
    private static void last(String spaced) {
        String whole = padded(spaced);
        due("open of " + spaced, stream(whole + bits(sumOf(whole), 8)).open(0), -21);
        due("frames of " + spaced, stream(whole + bits(sumOf(whole), 8)).frames(), -10);
        due("open of it with another sum", stream(whole + bits(sumOf(whole) ^ 1, 8)).open(0), -20);
        due("open of it without a sum", stream(whole).open(0), -11);
    }

    private static void elsewhere() {
        // a frame may begin at any byte, and what is ahead of it does not count for its sum
        String frame = padded(ONE_16 + " 000 0000 0010011100010001");
        String whole = frame + bits(sumOf(frame), 8);
        SamplePacks x = stream("11111111" + "10101010" + whole + whole);
        due("open(2)", x.open(2), 1);
        due("shown(4)", x.shown(4), 8);
        due("open(8)", x.open(8), 1);
        due("shown(4)", x.shown(4), 14);
        due("open(0)", x.open(0), -12);
        due("shown(4)", x.shown(4), 14);
        due("frames()", x.frames(), -10);
    }

    public static void main(String[] args) {
        heads();
        wasted();
        orders();
        parts();
        widths();
        values();
        foldedRests();
        ends();
        turnedSamples();
        elsewhere();
        System.out.println(calls + " answers, " + wrong + " not as due");
        if (wrong != 0) {
            System.exit(1);
        }
    }
}
