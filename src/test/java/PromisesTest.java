/** Each promise by hand: ordinary inputs, the edges that the document names, and wrong inputs. */
public final class PromisesTest {
    private static final int NONE = -1, BAD = -2, NO = -3, FULL = -4;
    private static final int LEAST = Integer.MIN_VALUE, MOST = Integer.MAX_VALUE;
    private static int wrong = 0;
    private static int calls = 0;
    private static String section = "";

    private static void due(String call, long got, long want) {
        calls++;
        if (got != want) {
            wrong++;
            System.out.println(section + ": " + call + " answered " + got + ", due is " + want);
        }
    }

    /** got(), with a number that no sample has for the exception. */
    private static int gotOrThrown(SamplePacks x, int channel, int i) {
        try {
            return x.got(channel, i);
        } catch (ArrayIndexOutOfBoundsException e) {
            return 1 << 20;
        }
    }

    private static void dueThrown(SamplePacks x, int channel, int i) {
        due("got(" + channel + ", " + i + ")", gotOrThrown(x, channel, i), 1 << 20);
    }

    private static SamplePacks with(int depth, int[] zero, int[] one) {
        SamplePacks x = new SamplePacks();
        x.depth(depth);
        refill(x, zero, one);
        return x;
    }

    private static void refill(SamplePacks x, int[] zero, int[] one) {
        x.drop(0);
        x.drop(1);
        for (int i = 0; i < zero.length; i++) {
            due("sample(0, " + zero[i] + ")", x.sample(0, zero[i]), i + 1);
        }
        for (int i = 0; i < one.length; i++) {
            due("sample(1, " + one[i] + ")", x.sample(1, one[i]), i + 1);
        }
    }

    private static int[] row(int... v) {
        return v;
    }

    private static int[] repeated(int n, int... v) {
        int[] all = new int[n];
        for (int i = 0; i < n; i++) {
            all[i] = v[i % v.length];
        }
        return all;
    }

    private static int crc(int s, int b) {
        int all = s ^ b;
        for (int i = 0; i < 8; i++) {
            all = (all & 128) != 0 ? (all << 1 ^ 7) & 255 : all << 1;
        }
        return all;
    }

    /** The stream's bytes from a place to its end are these bits (blanks aside), 0s and the sum. */
    private static void dueFrame(SamplePacks x, int place, String spaced) {
        StringBuilder bits = new StringBuilder(spaced.replace(" ", ""));
        due("told(3)", x.told(3), bits.length());
        while (bits.length() % 8 != 0) {
            bits.append('0');
        }
        int bytes = bits.length() / 8;
        due("told(4)", x.told(4), bytes + 1);
        due("size()", x.size(), place + bytes + 1);
        int s = 0;
        for (int i = 0; i < bytes; i++) {
            int b = Integer.parseInt(bits.substring(8 * i, 8 * i + 8), 2);
            due("at(" + (place + i) + ")", x.at(place + i), b);
            s = crc(s, b);
        }
        due("the sum, at(" + (place + bytes) + ")", x.at(place + bytes), s);
    }

    private static void dueOpened(SamplePacks x, int place, int[] zero, int[] one) {
        due("open(" + place + ")", x.open(place), zero.length);
        for (int i = 0; i < zero.length; i++) {
            due("got(0, " + i + ")", gotOrThrown(x, 0, i), zero[i]);
        }
        for (int i = 0; i < one.length; i++) {
            due("got(1, " + i + ")", gotOrThrown(x, 1, i), one[i]);
        }
        dueThrown(x, 0, zero.length);
        dueThrown(x, 1, one.length);
    }

    private static void newObject() {
        section = "promise 1";
        SamplePacks x = new SamplePacks();
        due("size()", x.size(), 0);
        due("at(0)", x.at(0), BAD);
        due("open(0)", x.open(0), BAD);
        due("frames()", x.frames(), 0);
        due("told(0)", x.told(0), NO);
        due("row(0, 0)", x.row(0, 0), NO);
        due("shown(0)", x.shown(0), NO);
        dueThrown(x, 0, 0);
        due("take()", x.take(), NO);
        due("pack()", x.pack(), NO);
        due("price(0, 1)", x.price(0, 1), BAD);
        due("price(1, 1)", x.price(1, 1), BAD);
        due("drop(0)", x.drop(0), 0);
        due("drop(1)", x.drop(1), 0);
        due("cut(0)", x.cut(0), 0);
        due("sample(0, 32767)", x.sample(0, 32767), 1);
        due("price(0, 7)", x.price(0, 7), NO);
        due("coefficients(0, 0, 0)", x.coefficients(0, 0, 0), 0);
        due("drop(0)", x.drop(0), 1);
        due("depth(16)", x.depth(16), 16);
    }

    private static void depth() {
        section = "promise 2";
        SamplePacks x = new SamplePacks();
        for (int b : row(0, 17, -1, LEAST, MOST)) {
            due("depth(" + b + ")", x.depth(b), BAD);
        }
        due("depth(1)", x.depth(1), 16);
        due("depth(16)", x.depth(16), 1);
        due("depth(7)", x.depth(7), 16);
        due("sample(0, 0)", x.sample(0, 0), 1);
        due("depth(8)", x.depth(8), NO);
        due("depth(0)", x.depth(0), BAD);
        due("depth(17)", x.depth(17), BAD);
        due("sample(0, 64)", x.sample(0, 64), BAD);
        due("sample(1, 63)", x.sample(1, 63), 1);
        due("drop(0)", x.drop(0), 1);
        due("depth(8)", x.depth(8), NO);
        due("drop(1)", x.drop(1), 1);
        due("depth(8)", x.depth(8), 7);
        due("sample(0, 127)", x.sample(0, 127), 1);
    }

    private static void sample() {
        section = "promise 3";
        for (int b = 1; b <= 16; b++) {
            SamplePacks x = new SamplePacks();
            x.depth(b);
            int half = 1 << (b - 1);
            due("sample(0, " + half + ")", x.sample(0, half), BAD);
            due("sample(0, " + (-half - 1) + ")", x.sample(0, -half - 1), BAD);
            due("sample(0, " + (half - 1) + ")", x.sample(0, half - 1), 1);
            due("sample(0, " + -half + ")", x.sample(0, -half), 2);
            due("sample(1, " + -half + ")", x.sample(1, -half), 1);
            due("sample(0, least)", x.sample(0, LEAST), BAD);
            due("sample(0, most)", x.sample(0, MOST), BAD);
        }
        SamplePacks x = new SamplePacks();
        for (int channel : row(-1, 2, LEAST, MOST)) {
            due("sample(" + channel + ", 0)", x.sample(channel, 0), BAD);
        }
        for (int i = 1; i <= 400; i++) {
            due("sample(1, i)", x.sample(1, i), i);
        }
        due("sample(1, 0)", x.sample(1, 0), FULL);
        due("sample(1, 32768)", x.sample(1, 32768), BAD);
        due("sample(2, 0)", x.sample(2, 0), BAD);
        due("sample(0, 0)", x.sample(0, 0), 1);
        due("drop(1)", x.drop(1), 400);
        due("sample(1, 0)", x.sample(1, 0), 1);
    }

    private static void drop() {
        section = "promise 4";
        SamplePacks x = with(16, row(1, 2, 3), row(4));
        for (int channel : row(-1, 2, LEAST, MOST)) {
            due("drop(" + channel + ")", x.drop(channel), BAD);
        }
        due("drop(0)", x.drop(0), 3);
        due("drop(0)", x.drop(0), 0);
        due("sample(0, 9)", x.sample(0, 9), 1);
        due("pack()", x.pack(), 0);
        dueOpened(x, 0, row(9), row(4));
        due("drop(1)", x.drop(1), 1);
        due("drop(1)", x.drop(1), 0);
    }

    private static void coefficients() {
        section = "promise 5";
        SamplePacks x = with(16, row(100, -100, 100, -100), row());
        due("price(0, 7)", x.price(0, 7), NO);
        due("coefficients(5, 0, 1)", x.coefficients(5, 0, 1), BAD);
        due("coefficients(-1, 0, 1)", x.coefficients(-1, 0, 1), BAD);
        due("coefficients(least, 0, 1)", x.coefficients(LEAST, 0, 1), BAD);
        due("coefficients(1, -1, 1)", x.coefficients(1, -1, 1), BAD);
        due("coefficients(1, 16, 1)", x.coefficients(1, 16, 1), BAD);
        due("coefficients(4, most, 1)", x.coefficients(4, MOST, 1), BAD);
        due("price(0, 7)", x.price(0, 7), NO);
        // w 2, 14 bits a value; c1 is -1, and all rests are 0: 7 + 2 + 4 + 10 + 14 + 3 + 4 + 3
        due("coefficients(1, 0, 1023)", x.coefficients(1, 0, 1023), 0);
        due("price(0, 7)", x.price(0, 7), 47);
        due("coefficients(1, 0, -1)", x.coefficients(1, 0, -1), 1);
        due("price(0, 7)", x.price(0, 7), 47);
        due("coefficients(1, 0, 1023 + 5 * 1024)", x.coefficients(1, 0, 1023 + 5 * 1024), 1);
        due("price(0, 7)", x.price(0, 7), 47);
        // c1 0, c2 1
        due("coefficients(2, 0, 1024)", x.coefficients(2, 0, 1024), 1);
        due("price(0, 7)", x.price(0, 7), 7 + 6 + 20 + 28 + 3 + 4 + 2);
        // what is refused changes nothing
        due("coefficients(2, 16, 0)", x.coefficients(2, 16, 0), BAD);
        due("coefficients(5, 0, 0)", x.coefficients(5, 0, 0), BAD);
        due("price(0, 7)", x.price(0, 7), 7 + 6 + 20 + 28 + 3 + 4 + 2);
        // c4 1 alone: order 4, and no rest at all
        due("coefficients(4, 15, 1L << 30)", x.coefficients(4, 15, 1L << 30), 2);
        due("price(0, 7)", x.price(0, 7), 7 + 6 + 40 + 56 + 3 + 4);
        due("coefficients(0, -5, 1)", x.coefficients(0, -5, 1), 4);
        due("price(0, 7)", x.price(0, 7), NO);
        due("coefficients(0, 16, 1)", x.coefficients(0, 16, 1), 0);
        due("coefficients(3, 15, 0)", x.coefficients(3, 15, 0), 0);
        due("coefficients(0, 0, 0)", x.coefficients(0, 0, 0), 3);
    }

    private static void packKinds() {
        section = "promise 6, kinds";
        SamplePacks x = with(16, row(4, 4, 4), row());
        due("pack()", x.pack(), 0);
        dueFrame(x, 0, "000000010 0 00 1111  000 0010 00000000000001");
        x = with(8, row(0, 0), row());
        due("pack()", x.pack(), 0);
        dueFrame(x, 0, "000000001 0 00 0111  000 0000 00000000");
        x = with(1, row(0, -1), row());
        due("pack()", x.pack(), 0);
        dueFrame(x, 0, "000000001 0 00 0000  001 0000 0 1");
        x = with(16, row(1, -1, 1, -1, 1, -1, 0, 0), row());
        due("pack()", x.pack(), 0);
        dueFrame(x, 0, "000000111 0 00 1111  010 0000 000 0000 110 10 110 10 110 10 0 0");
        // k 0 and k 1 have 22 bits both: the first
        int[] near = repeated(8, 1000, 1001);
        x = with(16, near, row());
        due("pack()", x.pack(), 0);
        dueFrame(x, 0, "000000111 0 00 1111  011 0000 0000001111101000 000 0000 110 10 110 10 110 10 110");
        dueOpened(x, 0, near, row());
        int[] line = new int[8];
        int[] square = new int[12];
        int[] cube = new int[12];
        for (int i = 0; i < 12; i++) {
            if (i < 8) {
                line[i] = 1001 * i + 3;
            }
            square[i] = 50 * i * i + 1;
            cube[i] = -20 * i * i * i + 1;
        }
        x = with(16, line, row());
        due("pack()", x.pack(), 0);
        dueFrame(x, 0, "000000111 0 00 1111  100 0000 0000000000000011 0000001111101100 000 1111 00000");
        dueOpened(x, 0, line, row());
        x = with(16, square, row());
        due("pack()", x.pack(), 0);
        dueFrame(x, 0, "000001011 0 00 1111  101 0000 0000000000000001 0000000000110011 0000000011001001 000 1111 00000");
        dueOpened(x, 0, square, row());
        x = with(16, cube, row());
        // as good as the FIXED kind of order 4, but dearer to tell
        x.coefficients(4, 0, 4 | (-6 & 1023L) << 10 | 4L << 20 | (-1 & 1023L) << 30);
        due("pack()", x.pack(), 0);
        dueFrame(x, 0, "000001011 0 00 1111  110 0000 0000000000000001 1111111111101101 1111111101100001 1111110111100101 000 1111 00000");
        dueOpened(x, 0, cube, row());
    }

    private static void packForetold() {
        section = "promise 6, kind 7";
        int[] halved = new int[16];
        int[] below = new int[16];
        for (int i = 0; i < 16; i++) {
            halved[i] = 32001 >> i;
            below[i] = -32001 >> i;
        }
        SamplePacks x = with(16, halved, row());
        due("coefficients(1, 1, 1)", x.coefficients(1, 1, 1), 0);
        due("pack()", x.pack(), 0);
        dueFrame(x, 0, "000001111 0 00 1111  111 0000 00 0001 0000000001 0111110100000001 000 1111 00000");
        dueOpened(x, 0, halved, row());
        due("shown(5)", x.shown(5), 7);
        // cut downward, not toward 0
        x = with(16, below, row());
        x.coefficients(1, 1, 1);
        due("pack()", x.pack(), 0);
        dueFrame(x, 0, "000001111 0 00 1111  111 0000 00 0001 0000000001 1000001011111111 000 1111 00000");
        dueOpened(x, 0, below, row());
        // c1 1, c2 -1: six values that come again
        int[] six = repeated(24, 7001, 12003, 5002, -7001, -12003, -5002);
        x = with(15, six, row());
        x.coefficients(2, 0, 1 | 1023L << 10);
        due("pack()", x.pack(), 0);
        dueFrame(x, 0, "000010111 0 00 1110  111 0000 01 0000 0000000001 1111111111 001101101011001 010111011100011 000 1111 00000");
        dueOpened(x, 0, six, row());
        // rests of 2^23 and -2^23 - 1 have no room, those of 2^23 - 1 and -2^23 have
        x = with(16, row(-32768, 0, 1), row());
        x.coefficients(1, 0, 256);
        due("price(0, 7)", x.price(0, 7), NO);
        refill(x, row(-32768, -1, 1), row());
        due("price(0, 7)", x.price(0, 7), 7 + 6 + 10 + 16 + 3 + 4 + 5 + 48);
        refill(x, row(32767, -256, -1), row());
        due("price(0, 7)", x.price(0, 7), 7 + 6 + 10 + 16 + 3 + 4 + 5 + 48);
        refill(x, row(32767, -257, -1), row());
        due("price(0, 7)", x.price(0, 7), NO);
        due("pack()", x.pack(), 0);
        due("row(0, 0)", x.row(0, 0), 1);
    }

    private static void packParts() {
        section = "promise 6, parts";
        int[] late = new int[16];
        for (int i = 8; i < 16; i++) {
            late[i] = i % 2 == 0 ? 32767 : -32768;
        }
        SamplePacks x = with(16, late, row());
        due("pack()", x.pack(), 0);
        dueFrame(x, 0, "000001111 0 00 1111  010 0000 001  1111 00000  1111 10000"
            + " 0111111111111111 1000000000000000".repeat(4));
        due("row(0, 3)", x.row(0, 3), 1);
        due("row(0, 10)", x.row(0, 10), 15);
        due("row(0, 11)", x.row(0, 11), 15);
        due("row(0, 12)", x.row(0, 12), BAD);
        due("row(0, 30)", x.row(0, 30), 0);
        due("row(0, 31)", x.row(0, 31), 16);
        due("row(0, 32)", x.row(0, 32), BAD);
        due("row(0, 2)", x.row(0, 2), 156);
        dueOpened(x, 0, late, row());
        // sixteen parts, one of them loud: 16 * 10 values
        int[] burst = repeated(160, 0);
        for (int i = 70; i < 80; i++) {
            burst[i] = i % 2 == 0 ? 32767 : -32768;
        }
        x = with(16, burst, row());
        due("pack()", x.pack(), 0);
        due("row(0, 0)", x.row(0, 0), 2);
        due("row(0, 3)", x.row(0, 3), 4);
        for (int j = 0; j < 16; j++) {
            due("row(0, 10 + " + j + ")", x.row(0, 10 + j), 15);
            due("row(0, 30 + " + j + ")", x.row(0, 30 + j), j == 7 ? 16 : 0);
        }
        due("row(0, 2)", x.row(0, 2), 7 + 3 + 16 * 9 + 160);
        due("row(0, 26)", x.row(0, 26), BAD);
        due("row(0, 46)", x.row(0, 46), BAD);
        dueOpened(x, 0, burst, row());
    }

    private static void packTurns() {
        section = "promise 6, turns";
        SamplePacks x = with(16, row(1001, 1001), row(20002, 20002));
        due("pack()", x.pack(), 0);
        dueFrame(x, 0, "000000001 1 00 1111  000 0000 0000001111101001  000 0001 010011100010001");
        dueOpened(x, 0, row(1001, 1001), row(20002, 20002));
        // turns 1, 2 and 3 have as many bits: the first
        x = with(16, row(10001), row(-1519));
        due("pack()", x.pack(), 0);
        dueFrame(x, 0, "000000000 1 01 1111  000 0000 0010011100010001  000 1000 000101101");
        dueOpened(x, 0, row(10001), row(-1519));
        int[] quiet = row(1, -1, 1, -1, 1, -1, 0, 0);
        int[] above = new int[8];
        for (int i = 0; i < 8; i++) {
            above[i] = quiet[i] + 1000;
        }
        x = with(16, above, quiet);
        due("pack()", x.pack(), 0);
        dueFrame(x, 0, "000000111 1 10 1111  000 0011 00000001111101"
            + "  010 0000 000 0000 110 10 110 10 110 10 0 0");
        dueOpened(x, 0, above, quiet);
        due("shown(2)", x.shown(2), 2);
        due("shown(5)", x.shown(5), 0);
        due("shown(6)", x.shown(6), 2);
        // together they are always -1: a middle of -1, and sides that are odd
        int[] up = row(3, -5, 7, 6, -8, 1, 0, 2);
        int[] down = new int[8];
        for (int i = 0; i < 8; i++) {
            down[i] = -up[i] - 1;
        }
        x = with(4, up, down);
        due("pack()", x.pack(), 0);
        due("told(2)", x.told(2), 3);
        due("row(0, 0)", x.row(0, 0), 0);
        due("row(1, 0)", x.row(1, 0), 1);
        dueFrame(x, 0, "000000111 1 11 0011  000 0000 1111"
            + "  001 0000 00111 10111 01111 01101 10001 00011 00001 00101");
        dueOpened(x, 0, up, down);
        // the widest sides there are
        x = with(16, row(32767, -32768, 5), row(-32768, 32767, 5));
        due("pack()", x.pack(), 0);
        due("told(2)", x.told(2), 3);
        dueOpened(x, 0, row(32767, -32768, 5), row(-32768, 32767, 5));
        // a side of 17 bits, 15 of them wasted
        x = with(16, row(21385), row(-11383));
        due("pack()", x.pack(), 0);
        due("told(2)", x.told(2), 1);
        due("row(1, 1)", x.row(1, 1), 15);
        dueFrame(x, 0, "000000000 1 01 1111  000 0000 0101001110001001  000 1111 01");
        dueOpened(x, 0, row(21385), row(-11383));
    }

    private static void packRefused() {
        section = "promise 6, refusals";
        SamplePacks x = new SamplePacks();
        due("sample(1, 1)", x.sample(1, 1), 1);
        due("pack()", x.pack(), NO);
        due("sample(0, 1)", x.sample(0, 1), 1);
        due("sample(0, 2)", x.sample(0, 2), 2);
        due("pack()", x.pack(), NO);
        due("size()", x.size(), 0);
        due("told(0)", x.told(0), NO);
        due("sample(1, 3)", x.sample(1, 3), 2);
        due("pack()", x.pack(), 0);
        int first = x.size();
        due("pack()", x.pack(), first);
        due("drop(1)", x.drop(1), 2);
        due("drop(0)", x.drop(0), 2);
        // 16 + 7 + 16 bits: 5 bytes and the sum
        due("sample(0, 10001)", x.sample(0, 10001), 1);
        due("pack()", x.pack(), 2 * first);
        due("told(4)", x.told(4), 6);
        due("cut(0)", x.cut(0), 2 * first + 6);
        fill(x, 2394);
        due("pack()", x.pack(), 2394);
        due("size()", x.size(), 2400);
        due("cut(2395)", x.cut(2395), 5);
        due("sample(0, 10001)", x.sample(0, 10001), 2);
        due("told(0)", x.told(0), 1);
        // 6 bytes again, and room for 5
        due("pack()", x.pack(), FULL);
        due("size()", x.size(), 2395);
        due("told(0)", x.told(0), 1);
        due("row(0, 2)", x.row(0, 2), 23);
        due("cut(2394)", x.cut(2394), 1);
        due("pack()", x.pack(), 2394);
        due("told(0)", x.told(0), 2);
        due("sample(1, 0)", x.sample(1, 0), 1);
        // NO comes ahead of FULL
        due("pack()", x.pack(), NO);
    }

    private static void fill(SamplePacks x, int until) {
        for (int i = x.size() + 1; i <= until; i++) {
            due("add(255)", x.add(255), i);
        }
    }

    private static void told() {
        section = "promise 7";
        SamplePacks x = with(16, row(1, 1, 1), row());
        for (int what = 0; what <= 4; what++) {
            due("told(" + what + ")", x.told(what), NO);
        }
        due("told(-1)", x.told(-1), BAD);
        due("told(5)", x.told(5), BAD);
        x.pack();
        due("told(0)", x.told(0), 3);
        due("told(1)", x.told(1), 1);
        due("told(2)", x.told(2), 0);
        due("told(3)", x.told(3), 39);
        due("told(4)", x.told(4), 6);
        for (int what : row(-1, 5, LEAST, MOST)) {
            due("told(" + what + ")", x.told(what), BAD);
        }
        refill(x, row(10001), row(-1519));
        due("told(0)", x.told(0), 3);
        x.pack();
        due("told(0)", x.told(0), 1);
        due("told(1)", x.told(1), 2);
        due("told(2)", x.told(2), 1);
        due("told(3)", x.told(3), 16 + 23 + 16);
        due("told(4)", x.told(4), 8);
        x.cut(0);
        due("told(4)", x.told(4), 8);
        // bits that end at a whole byte
        x = with(9, row(1), row());
        x.pack();
        due("told(3)", x.told(3), 32);
        due("told(4)", x.told(4), 5);
    }

    private static void rowTold() {
        section = "promise 8";
        SamplePacks x = with(16, row(8, 8), row());
        for (int what : row(0, 1, 2, 3, 10, 25, 30, 45)) {
            due("row(0, " + what + ")", x.row(0, what), NO);
            due("row(1, " + what + ")", x.row(1, what), NO);
            due("row(2, " + what + ")", x.row(2, what), BAD);
            due("row(-1, " + what + ")", x.row(-1, what), BAD);
        }
        for (int what : row(-1, 4, 9, 26, 29, 46, LEAST, MOST)) {
            due("row(0, " + what + ")", x.row(0, what), BAD);
        }
        x.pack();
        due("row(0, 0)", x.row(0, 0), 0);
        due("row(0, 1)", x.row(0, 1), 3);
        due("row(0, 2)", x.row(0, 2), 20);
        due("row(0, 3)", x.row(0, 3), NONE);
        due("row(0, 10)", x.row(0, 10), BAD);
        due("row(0, 30)", x.row(0, 30), BAD);
        for (int what : row(-1, 4, 9, 26, 29, 46, LEAST, MOST)) {
            due("row(0, " + what + ")", x.row(0, what), BAD);
        }
        due("row(1, 0)", x.row(1, 0), BAD);
        due("row(2, 0)", x.row(2, 0), BAD);
        due("row(-1, 0)", x.row(-1, 0), BAD);
        int[] near = repeated(8, 1000, 1001);
        refill(x, near, repeated(8, 0, 0, -1, -1));
        x.pack();
        due("told(2)", x.told(2), 0);
        due("row(0, 0)", x.row(0, 0), 3);
        due("row(0, 1)", x.row(0, 1), 0);
        due("row(0, 2)", x.row(0, 2), 48);
        due("row(0, 3)", x.row(0, 3), 0);
        due("row(0, 10)", x.row(0, 10), 0);
        due("row(0, 11)", x.row(0, 11), BAD);
        due("row(0, 30)", x.row(0, 30), NONE);
        due("row(0, 31)", x.row(0, 31), BAD);
        due("row(1, 0)", x.row(1, 0), 2);
        // k 0 has 4 + 4 + 8 bits, k 15 with x 1 has 4 + 5 + 8
        due("row(1, 2)", x.row(1, 2), 7 + 3 + 16);
        due("row(1, 10)", x.row(1, 10), 0);
        due("row(2, 0)", x.row(2, 0), BAD);
        // what price() tries does not show
        x.price(0, 6);
        due("row(0, 0)", x.row(0, 0), 3);
        // one channel again: ROW 1 is gone
        x.drop(1);
        x.pack();
        due("row(1, 0)", x.row(1, 0), BAD);
    }

    private static void price() {
        section = "promise 9";
        SamplePacks x = with(16, row(-32768, 5), row(12, 12, 12, 12));
        due("price(0, 0)", x.price(0, 0), NO);
        due("price(0, 1)", x.price(0, 1), 7 + 32);
        // u is 65535 and 10: with p 1 k 14 has 4 + 3 + 1 + 14, and k 2 has 4 + 2 + 1 + 2
        due("price(0, 2)", x.price(0, 2), 7 + 3 + 22 + 9);
        due("price(0, 4)", x.price(0, 4), 7 + 32 + 3 + 4);
        due("price(0, 5)", x.price(0, 5), NO);
        due("price(0, 6)", x.price(0, 6), NO);
        due("price(0, 7)", x.price(0, 7), NO);
        due("price(1, 0)", x.price(1, 0), 7 + 14);
        due("price(1, 1)", x.price(1, 1), 7 + 56);
        due("price(1, 2)", x.price(1, 2), 7 + 3 + 4 + 4 * 4);
        due("price(1, 3)", x.price(1, 3), 7 + 14 + 3 + 4 + 3);
        due("price(1, 6)", x.price(1, 6), 7 + 56 + 3 + 4);
        for (int kind : row(-1, 8, LEAST, MOST)) {
            due("price(0, " + kind + ")", x.price(0, kind), BAD);
        }
        for (int channel : row(-1, 2, LEAST, MOST)) {
            due("price(" + channel + ", 0)", x.price(channel, 0), BAD);
        }
        x.drop(0);
        due("price(0, 0)", x.price(0, 0), BAD);
        due("price(0, 7)", x.price(0, 7), BAD);
        due("price(1, 0)", x.price(1, 0), 21);
        // order 3 wants three values
        refill(x, row(1, 2), row(1, 2, 3));
        x.coefficients(3, 0, 0);
        due("price(0, 7)", x.price(0, 7), NO);
        due("price(1, 7)", x.price(1, 7), 7 + 6 + 30 + 48 + 3 + 4);
        x = with(5, row(0, 0, 0), row());
        due("price(0, 0)", x.price(0, 0), 12);
        due("size()", x.size(), 0);
        due("told(0)", x.told(0), NO);
    }

    private static void bytes() {
        section = "promises 10 to 14";
        SamplePacks x = new SamplePacks();
        for (int b : row(-1, 256, LEAST, MOST)) {
            due("add(" + b + ")", x.add(b), BAD);
        }
        due("add(0)", x.add(0), 1);
        due("add(255)", x.add(255), 2);
        due("add(7)", x.add(7), 3);
        due("size()", x.size(), 3);
        due("at(0)", x.at(0), 0);
        due("at(1)", x.at(1), 255);
        due("at(2)", x.at(2), 7);
        for (int i : row(-1, 3, 2399, 2400, LEAST, MOST)) {
            due("at(" + i + ")", x.at(i), BAD);
            due("alter(" + i + ", 1)", x.alter(i, 1), BAD);
        }
        due("alter(1, 128)", x.alter(1, 128), 255);
        due("alter(1, 0)", x.alter(1, 0), 128);
        due("alter(2, 255)", x.alter(2, 255), 7);
        for (int b : row(-1, 256, LEAST, MOST)) {
            due("alter(2, " + b + ")", x.alter(2, b), BAD);
        }
        due("at(2)", x.at(2), 255);
        for (int n : row(-1, 4, LEAST, MOST)) {
            due("cut(" + n + ")", x.cut(n), BAD);
        }
        due("cut(3)", x.cut(3), 0);
        due("cut(1)", x.cut(1), 2);
        due("size()", x.size(), 1);
        due("at(1)", x.at(1), BAD);
        due("alter(1, 1)", x.alter(1, 1), BAD);
        due("cut(2)", x.cut(2), BAD);
        due("add(9)", x.add(9), 2);
        due("at(1)", x.at(1), 9);
        due("cut(0)", x.cut(0), 2);
        fill(x, 2400);
        due("add(0)", x.add(0), FULL);
        due("add(256)", x.add(256), BAD);
        due("size()", x.size(), 2400);
        due("at(2399)", x.at(2399), 255);
        due("at(2400)", x.at(2400), BAD);
        due("cut(2400)", x.cut(2400), 0);
        due("cut(2399)", x.cut(2399), 1);
        due("add(1)", x.add(1), 2400);
    }

    private static void open() {
        section = "promises 15 to 17";
        SamplePacks x = with(12, row(5, 6, 5), row());
        x.pack();
        int second = x.size();
        refill(x, row(1, -2048), row(2047, 0));
        x.pack();
        for (int at : row(-1, x.size(), LEAST, MOST)) {
            due("open(" + at + ")", x.open(at), BAD);
        }
        for (int what = 0; what <= 6; what++) {
            due("shown(" + what + ")", x.shown(what), NO);
        }
        due("shown(-1)", x.shown(-1), BAD);
        due("shown(7)", x.shown(7), BAD);
        dueThrown(x, 0, 0);
        dueOpened(x, 0, row(5, 6, 5), row());
        due("shown(0)", x.shown(0), 3);
        due("shown(1)", x.shown(1), 1);
        due("shown(2)", x.shown(2), 0);
        due("shown(3)", x.shown(3), 12);
        due("shown(4)", x.shown(4), second);
        due("shown(5)", x.shown(5), 2);
        due("shown(6)", x.shown(6), NONE);
        for (int what : row(-1, 7, LEAST, MOST)) {
            due("shown(" + what + ")", x.shown(what), BAD);
        }
        for (int i : row(-1, 3, 399, 400, LEAST, MOST)) {
            dueThrown(x, 0, i);
        }
        for (int channel : row(-1, 1, 2, LEAST, MOST)) {
            dueThrown(x, channel, 0);
        }
        dueOpened(x, second, row(1, -2048), row(2047, 0));
        due("shown(0)", x.shown(0), 2);
        due("shown(1)", x.shown(1), 2);
        due("shown(4)", x.shown(4), x.size());
        dueThrown(x, 2, 0);
        dueThrown(x, -1, 0);
        // a fault, or BAD, leaves what was shown
        due("open(last)", x.open(x.size() - 1), -11);
        due("open(-1)", x.open(-1), BAD);
        due("shown(0)", x.shown(0), 2);
        due("got(1, 0)", gotOrThrown(x, 1, 0), 2047);
        x.alter(second + 2, x.at(second + 2) ^ 255);
        due("open(second) is a fault", x.open(second) <= -11 ? 1 : 0, 1);
        x.cut(0);
        due("got(0, 1)", gotOrThrown(x, 0, 1), -2048);
        due("shown(3)", x.shown(3), 12);
    }

    private static void take() {
        section = "promise 18";
        SamplePacks x = with(12, row(5, 6, 5), row());
        due("take()", x.take(), NO);
        x.pack();
        int second = x.size();
        refill(x, row(1, -2048), row(2047, 0));
        x.pack();
        x.open(0);
        due("drop(0)", x.drop(0), 2);
        due("drop(1)", x.drop(1), 2);
        due("depth(3)", x.depth(3), 12);
        due("sample(1, 3)", x.sample(1, 3), 1);
        due("take()", x.take(), 3);
        due("drop(1)", x.drop(1), 0);
        due("sample(0, 2047)", x.sample(0, 2047), 4);
        due("sample(0, 2048)", x.sample(0, 2048), BAD);
        due("price(0, 1)", x.price(0, 1), 7 + 48);
        due("depth(3)", x.depth(3), NO);
        x.open(second);
        due("take()", x.take(), 2);
        int third = x.size();
        due("pack()", x.pack(), third);
        for (int i = 0; i < third - second; i++) {
            due("at(" + (third + i) + ")", x.at(third + i), x.at(second + i));
        }
        due("drop(1)", x.drop(1), 2);
        due("drop(0)", x.drop(0), 2);
        due("depth(1)", x.depth(1), 12);
        // samples stay what they are when others are opened, and the shown ones when samples change
        due("take()", x.take(), 2);
        due("sample(0, 7)", x.sample(0, 7), 3);
        dueThrown(x, 0, 2);
        due("got(0, 0)", gotOrThrown(x, 0, 0), 1);
        due("drop(0)", x.drop(0), 3);
        due("sample(0, 9)", x.sample(0, 9), 1);
        due("got(0, 0)", gotOrThrown(x, 0, 0), 1);
    }

    private static void frames() {
        section = "promise 19";
        SamplePacks x = with(16, row(1), row());
        due("frames()", x.frames(), 0);
        for (int i = 0; i < 400; i++) {
            due("pack()", x.pack(), 6 * i);
        }
        due("pack()", x.pack(), FULL);
        due("frames()", x.frames(), 400);
        due("shown(0)", x.shown(0), NO);
        due("open(6)", x.open(6), 1);
        due("shown(4)", x.shown(4), 12);
        due("frames()", x.frames(), 400);
        due("shown(4)", x.shown(4), 12);
        due("got(0, 0)", gotOrThrown(x, 0, 0), 1);
        due("cut(2399)", x.cut(2399), 1);
        due("frames()", x.frames(), -10 - 399);
        due("cut(18)", x.cut(18), 2381);
        due("frames()", x.frames(), 3);
        due("alter(17, ..)", x.alter(17, x.at(17) ^ 1), x.at(17) ^ 1);
        due("frames()", x.frames(), -12);
        due("alter(0, 255)", x.alter(0, 255), 0);
        due("frames()", x.frames(), -10);
        due("cut(1)", x.cut(1), 17);
        due("frames()", x.frames(), -10);
        due("shown(4)", x.shown(4), 12);
        due("take()", x.take(), 1);
    }

    private static void longestFrame() {
        section = "the longest frame";
        int[] zero = new int[400];
        int[] one = new int[400];
        int s = 1;
        for (int i = 0; i < 400; i++) {
            s = s * 1103515245 + 12345;
            zero[i] = s >> 16;
            s = s * 1103515245 + 12345;
            one[i] = s >> 16;
        }
        SamplePacks x = with(16, zero, one);
        due("pack()", x.pack(), 0);
        due("told(3)", x.told(3), 16 + 2 * (7 + 6400));
        due("told(4)", x.told(4), 1605);
        dueOpened(x, 0, zero, one);
        due("pack()", x.pack(), FULL);
        due("frames()", x.frames(), 1);
    }

    public static void main(String[] args) {
        newObject();
        depth();
        sample();
        drop();
        coefficients();
        packKinds();
        packForetold();
        packParts();
        packTurns();
        packRefused();
        told();
        rowTold();
        price();
        bytes();
        open();
        take();
        frames();
        longestFrame();
        System.out.println(calls + " answers, " + wrong + " not as due");
        if (wrong != 0) {
            System.exit(1);
        }
    }
}
