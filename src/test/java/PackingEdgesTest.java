/**
 * The edges that the document names for packing, a run for each sentence: A FRAME, TURN, A ROW, KINDS,
 * RESTS, PACKED, and the promises pack, row and price.
 */
public final class PackingEdgesTest {
    private static final String DEPTH_16 = " 0 00 1111  ";

    private static WatchedRun run(String sentence) {
        return new WatchedRun(sentence);
    }

    private static WatchedRun run(String sentence, int depth, int... zero) {
        return run(sentence).due("depth(" + depth + ")", 16).samples(0, zero);
    }

    private static int[] row(int... v) {
        return v;
    }

    private static String bits(long v, int count) {
        return WatchedRun.bits(v, count);
    }

    private static String bits(int[] v, int from, int to, int each) {
        StringBuilder s = new StringBuilder();
        for (int i = from; i < to; i++) {
            s.append(bits(v[i], each));
        }
        return s.toString();
    }

    private static void heads() {
        String sentence = "A FRAME of n SAMPLES (1 .. 400): n - 1 in 9 bits";
        run(sentence, 1, 0).calls("pack() 0").dueFrame(0, "000000000 0 00 0000  000 0000 0");
        run(sentence, 1, new int[400]).calls("pack() 0").dueFrame(0, "110001111 0 00 0000  000 0000 0")
            .calls("open(0) 400", "got(0, 399) 0", "got(0, 400) throws");
        run(sentence, 1, new int[256]).calls("pack() 0").dueFrame(0, "011111111 0 00 0000  000 0000 0");
        run(sentence, 1, new int[257]).calls("pack() 0").dueFrame(0, "100000000 0 00 0000  000 0000 0");
        run("channels less 1 in 1; TURN in 2 (0 with one channel)", 1, -1)
            .calls("pack() 0", "told(1) 1", "told(2) 0").dueFrame(0, "000000000 0 00 0000  000 0000 1")
            .calls("sample(1, -1) 1", "pack() 4", "told(1) 2", "told(2) 0")
            .dueFrame(4, "000000000 1 00 0000  000 0000 1  000 0000 1");
        // the frame ahead had a TURN of its own
        run("TURN in 2 (0 with one channel)", 16, 10001).samples(1, -1519).calls("pack() 0", "told(2) 1", "drop(1) 1",
            "pack() 8", "told(2) 0").dueFrame(8, "000000000 0 00 1111  000 0000 0010011100010001").calls("open(8) 1", "shown(2) 0");
        for (int depth = 1; depth <= 16; depth++) {
            // the greatest value; the rows end 0 to 7 bits ahead of a byte's end
            int most = (1 << (depth - 1)) - 1;
            run("DEPTH - 1 in 4; 0 bits up to a whole byte", depth, most).calls("pack() 0")
                .dueFrame(0, "000000000 0 00 " + bits(depth - 1, 4) + " 000 0000 " + bits(most, depth))
                .due("told(4)", (23 + depth + 7) / 8 + 1)
                .calls("open(0) 1").due("shown(3)", depth).due("got(0, 0)", most);
        }
    }

    private static void sums() {
        String sentence = "THE SUM: s is 0 at first; eight times 2 s, xor 263 where that is above 255";
        run(sentence, 1, 0).calls("pack() 0", "at(0) 0", "at(1) 0", "at(2) 0", "at(3) 0", "size() 4");
        // 1, doubled eight times: 256 xor 263
        run(sentence, 1, -1).calls("pack() 0", "at(0) 0", "at(1) 0", "at(2) 1", "at(3) 7", "size() 4");
        // 1 becomes 7, then 21, then 107
        run(sentence, 1, 0, 0, 0).calls("pack() 0", "at(0) 1", "at(1) 0", "at(2) 0", "at(3) 107", "size() 4");
        run("THE SUM: for each byte ahead in the FRAME, and no other", 1, -1)
            .calls("add(255) 1", "pack() 1", "at(4) 7", "pack() 5", "at(8) 7", "frames() -10", "open(1) 1", "open(5) 1");
    }

    private static void numbers() {
        run("BITS stand in bytes from the highest bit on; what may be below 0 as two's complement", 3, -4, -3, 3, -1, 0)
            .calls("pack() 0", "row(0, 0) 1").dueFrame(0, "000000100 0 00 0010  001 0000 100 101 011 111 000");
    }

    private static void turns() {
        run("TURN 0: the ROWS are both channels", 16, 1001, 1001).samples(1, 20002, 20002).calls("pack() 0")
            .dueFrame(0, "000000001 1 00 1111  000 0000 0000001111101001  000 0001 010011100010001")
            .calls("open(0) 2").dueChannel(0, 1001, 1001).dueChannel(1, 20002, 20002);
        run("TURN 1: channel 0, and the side: 0 less 1", 16, 10001).samples(1, -1519).calls("pack() 0")
            .dueFrame(0, "000000000 1 01 1111  000 0000 0010011100010001  000 1000 000101101")
            .calls("open(0) 1").dueChannel(0, 10001).dueChannel(1, -1519);
        run("TURN 1: a side below 0", 16, 10001).samples(1, 21521).calls("pack() 0")
            .dueFrame(0, "000000000 1 01 1111  000 0000 0010011100010001  000 1000 111010011")
            .calls("open(0) 1").dueChannel(0, 10001).dueChannel(1, 21521);
        int[] quiet = row(1, -1, 1, -1, 1, -1, 0, 0);
        int[] above = row(1001, 999, 1001, 999, 1001, 999, 1000, 1000);
        run("TURN 2: the side, and channel 1", 16, above).samples(1, quiet).calls("pack() 0")
            .dueFrame(0, "000000111 1 10 1111  000 0011 00000001111101  010 0000 000 0000 110 10 110 10 110 10 0 0")
            .calls("open(0) 8").dueChannel(0, above).dueChannel(1, quiet);
        int[] up = row(3, -5, 7, 6, -8, 1, 0, 2);
        int[] down = row(-4, 4, -8, -7, 7, -2, -1, -3);
        run("TURN 3: the middle: both together, halved (cut downward), and the side", 4, up).samples(1, down)
            .calls("pack() 0")
            .dueFrame(0, "000000111 1 11 0011  000 0000 1111  001 0000 00111 10111 01111 01101 10001 00011 00001 00101")
            .calls("open(0) 8").dueChannel(0, up).dueChannel(1, down);
    }

    private static void sideBits() {
        String sentence = "A side has one bit more than DEPTH, all others DEPTH";
        // middles -1, -1, 5 with k 1; sides 65535, -65535, 0
        run(sentence, 16, 32767, -32768, 5).samples(1, -32768, 32767, 5).calls("pack() 0")
            .dueFrame(0, "000000010 1 11 1111  010 0000 000 0001 01 01 1111100"
                + "  001 0000 01111111111111111 10000000000000001 00000000000000000")
            .calls("open(0) 3").dueChannel(0, 32767, -32768, 5).dueChannel(1, -32768, 32767, 5);
        run(sentence + ": two bits of DEPTH 1", 1, 0, -1, 0).samples(1, 0, -1, 0).calls("pack() 0")
            .dueFrame(0, "000000010 1 01 0000  001 0000 0 1 0  000 0000 00")
            .calls("open(0) 3").dueChannel(0, 0, -1, 0).dueChannel(1, 0, -1, 0);
    }

    private static void longRows() {
        // 400 of each, TURN 1: channel 0 is -1, -8, -1 and so on, channel 1 is 2 more
        String zero = "001 0000" + "1111 1000".repeat(200);
        run("A FRAME of n SAMPLES (1 .. 400) of two channels").frame("110001111 1 01 0011  " + zero + "  000 0000 11110")
            .calls("open(0) 400", "shown(2) 1", "got(0, 399) -8", "got(1, 398) 1", "got(1, 399) -6", "got(1, 400) throws",
                "take() 400", "pack() 206", "told(0) 400", "told(1) 2", "told(2) 1", "told(3) 1634", "told(4) 206",
                "open(206) 400", "got(0, 0) -1", "got(0, 399) -8", "got(1, 0) 1", "got(1, 399) -6", "frames() 2");
    }

    private static void wasted() {
        for (int depth = 1; depth <= 16; depth++) {
            int least = -(1 << (depth - 1));
            run("w may be 0 .. b - 1", depth, least, least).calls("pack() 0").due("row(0, 1)", depth - 1)
                .dueFrame(0, "000000001 0 00 " + bits(depth - 1, 4) + " 000 " + bits(depth - 1, 4) + " 1")
                .calls("open(0) 2").dueChannel(0, least, least);
            run("0 where all values are 0", depth, 0, 0).calls("pack() 0", "row(0, 1) 0")
                .due("price(0, 0)", 7 + depth).due("price(0, 1)", 7 + 2 * depth);
        }
        String sentence = "w .. (15 at most)";
        // sides of 17 bits: 32768 and -32768
        run(sentence, 16, 21385).samples(1, -11383).calls("pack() 0", "row(1, 1) 15")
            .dueFrame(0, "000000000 1 01 1111  000 0000 0101001110001001  000 1111 01")
            .calls("open(0) 1").dueChannel(0, 21385).dueChannel(1, -11383);
        run(sentence, 16, -11383).samples(1, 21385).calls("pack() 0", "row(1, 1) 15")
            .dueFrame(0, "000000000 1 01 1111  000 0000 1101001110001001  000 1111 11")
            .calls("open(0) 1").dueChannel(0, -11383).dueChannel(1, 21385);
        sentence = "PACKED, a ROW has the greatest w that may be";
        run(sentence, 5, 4, 0, -12, 8).calls("pack() 0", "row(0, 1) 2", "price(0, 1) 19")
            .calls("sample(0, 2) 5", "price(0, 1) 27", "sample(0, -1) 6", "price(0, 1) 37");
        run(sentence + ", each of its own", 16, 16, 16).samples(1, -96, -96).calls("pack() 0", "told(2) 0",
            "row(0, 1) 4", "row(1, 1) 5");
    }

    private static void kinds() {
        String sentence = "0 LIKE: all values are alike: one of them in b bits";
        run(sentence, 9, 5).calls("price(0, 0) 16", "sample(0, 5) 2", "price(0, 0) 16", "sample(0, 5) 3", "price(0, 0) 16",
            "sample(0, 4) 4", "price(0, 0) NO");
        run(sentence + ": the first one is another", 9, 4, 5, 5, 5).calls("price(0, 0) NO");
        run(sentence + ": of 400 the last one is another", 9, WatchedRun.repeated(399, 5))
            .calls("price(0, 0) 16", "sample(0, 6) 400", "price(0, 0) NO");
        run("1 PLAIN: each in b bits", 9, 255).calls("price(0, 1) 16", "sample(0, -256) 2", "price(0, 1) 25");
        run("1 PLAIN: 400 of 16 bits", 16, WatchedRun.noise(400)).calls("price(0, 1) 6407", "pack() 0", "row(0, 0) 1",
            "row(0, 2) 6407", "told(3) 6423", "told(4) 804", "open(0) 400", "got(0, 399) " + WatchedRun.noise(400)[399]);
        // n of 1: a REST of 1 has 3 bits; n of o: no REST at all
        run("FIXED, of order o = KIND - 2 (not above n)", 16, 1).calls(
            "price(0, 2) 17", "price(0, 3) 30", "price(0, 4) NO", "price(0, 5) NO", "price(0, 6) NO",
            "sample(0, 1) 2", "price(0, 4) 46", "price(0, 5) NO", "price(0, 6) NO",
            "sample(0, 1) 3", "price(0, 5) 62", "price(0, 6) NO",
            "sample(0, 1) 4", "price(0, 6) 78");
    }

    private static int[] polynomial(int n, int a, int b, int c, int d) {
        int[] v = new int[n];
        for (int i = 0; i < n; i++) {
            v[i] = a * i * i * i + b * i * i + c * i + d;
        }
        return v;
    }

    private static void fixedOrders() {
        int[][] rows = {
            new int[12], polynomial(12, 0, 0, 0, 1001), polynomial(12, 0, 0, 1001, 3), polynomial(12, 0, 50, 0, 1),
            polynomial(12, -20, 0, 0, 1),
        };
        for (int order = 0; order <= 4; order++) {
            // all RESTS are 0, so that x is 0
            run("FIXED: value i less what is foretold, order " + order, 16, rows[order])
                .due("price(0, " + (order + 2) + ")", 7 + 16 * order + 3 + 9);
        }
        for (int order = 2; order <= 4; order++) {
            run("FIXED: o values in b bits, then RESTS, order " + order, 16, rows[order]).calls("pack() 0")
                .dueFrame(0, "000001011" + DEPTH_16 + bits(order + 2, 3) + " 0000 " + bits(rows[order], 0, order, 16)
                    + " 000 1111 00000")
                .calls("open(0) 12").dueChannel(0, rows[order]);
        }
        // RESTS of 32768 to 524280, above 0 and below it, in 16 to 20 bits
        run("FIXED: the greatest RESTS that there are", 16, WatchedRun.repeated(20, 32767, -32768)).calls(
            "price(0, 1) 327", "price(0, 2) 339", "price(0, 3) 358", "price(0, 4) 375", "price(0, 5) 390", "price(0, 6) 403");
    }

    private static void foretold() {
        String sentence = "7 FORETOLD by COEFFICIENTS, of order o 1 .. 4 (not above n)";
        for (int order = 1; order <= 4; order++) {
            WatchedRun r = run(sentence).due("coefficients(" + order + ", 0, 0)", 0);
            for (int n = 1; n <= order; n++) {
                r.due("sample(0, " + n + ")", n);
                r.due("price(0, 7)", n < order ? -3 : 7 + 6 + 26 * order + 7);
            }
        }
        run(sentence + ": 7 if COEFFICIENTS are told", 16, 3, 1).calls("price(0, 7) NO", "coefficients(1, 0, 0) 0",
            "price(0, 7) 49", "coefficients(0, 0, 0) 1", "price(0, 7) NO", "coefficients(2, 15, 0) 0", "price(0, 7) 72");
        sentence = "what is foretold is .., by 2^SHIFT, cut downward";
        int[] halved = new int[16];
        int[] below = new int[16];
        for (int i = 0; i < 16; i++) {
            halved[i] = 32001 >> i;
            below[i] = -32001 >> i;
        }
        run(sentence, 16, halved).calls("coefficients(1, 1, 1) 0", "pack() 0")
            .dueFrame(0, "000001111" + DEPTH_16 + "111 0000 00 0001 0000000001 0111110100000001 000 1111 00000")
            .calls("open(0) 16").dueChannel(0, halved);
        run(sentence, 16, below).calls("coefficients(1, 1, 1) 0", "pack() 0")
            .dueFrame(0, "000001111" + DEPTH_16 + "111 0000 00 0001 0000000001 1000001011111111 000 1111 00000")
            .calls("open(0) 16").dueChannel(0, below);
        // -1 by 2^15 is -1; 1 by it is 0
        run(sentence + ", SHIFT 15", 16, WatchedRun.repeated(7, -1)).calls("coefficients(1, 15, 1) 0", "price(0, 7) 51");
        run(sentence + ", SHIFT 15", 16, row(1, 0, 0, 0, 0, 0, 0)).calls("coefficients(1, 15, 1) 0", "price(0, 7) 51");
        sentence = "a SHIFT 0 .. 15 in 4; c1 .. co in 10 bits each (-512 .. 511)";
        run(sentence, 16, row(-63, 32256)).calls("coefficients(1, 0, 512) 0", "price(0, 7) 47");
        run(sentence, 16, row(63, 32193)).calls("coefficients(1, 0, 511) 0", "price(0, 7) 47");
    }

    private static void roomOf24() {
        String sentence = "all RESTS have room in 24 bits";
        run(sentence + ": 2^23 has none", 16, -32768, 0, 1).calls("coefficients(1, 0, 256) 0", "price(0, 7) NO");
        run(sentence + ": 2^23 - 1 has", 16, -32768, -1, 1).calls("coefficients(1, 0, 256) 0", "price(0, 7) 99");
        run(sentence + ": -2^23 has", 16, 32767, -256, -1).calls("coefficients(1, 0, 256) 0", "price(0, 7) 99");
        run(sentence + ": -2^23 - 1 has none", 16, 32767, -257, -1).calls("coefficients(1, 0, 256) 0", "price(0, 7) NO",
            "pack() 0", "row(0, 0) 1", "coefficients(0, 0, 0) 1");
        run(sentence + ": the last of them has none", 16, 0, 0, 0, 0, -32768, 1).calls("coefficients(1, 0, 256) 0",
            "price(0, 7) NO");
    }

    private static void parts() {
        int[] burst = new int[24];
        burst[3] = 32767;
        burst[4] = -32768;
        burst[5] = 32767;
        run("p 0 .. 4, so that 2^p divides n: 24", 16, burst).calls("pack() 0", "row(0, 0) 2", "row(0, 2) 116",
            "row(0, 3) 3", "row(0, 10) 0", "row(0, 11) 15", "row(0, 12) 0", "row(0, 17) 0", "row(0, 18) BAD",
            "row(0, 30) NONE", "row(0, 31) 16", "row(0, 32) NONE", "row(0, 37) NONE", "row(0, 38) BAD",
            "open(0) 24").dueChannel(0, burst);
        run("2^p divides n: 25", 16, burst).calls("sample(0, 0) 25", "pack() 0", "row(0, 3) 0", "row(0, 10) 12",
            "row(0, 11) BAD", "row(0, 30) NONE", "row(0, 31) BAD");
        run("2^p divides n: 26", 16, burst).calls("sample(0, 0) 25", "sample(0, 0) 26", "pack() 0", "row(0, 3) 1",
            "row(0, 11) 15", "row(0, 12) BAD", "row(0, 31) 0", "row(0, 32) BAD");
        int[] long160 = new int[160];
        for (int i = 70; i < 80; i++) {
            long160[i] = i % 2 == 0 ? 32767 : -32768;
        }
        WatchedRun r = run("p 0 .. 4: 16 PARTS", 16, long160).calls("pack() 0", "row(0, 3) 4", "row(0, 2) 314",
            "row(0, 26) BAD", "row(0, 46) BAD");
        for (int j = 0; j < 16; j++) {
            r.due("row(0, " + (10 + j) + ")", 15).due("row(0, " + (30 + j) + ")", j == 7 ? 16 : 0);
        }
        // 32 PARTS of 10 would be cheaper still
        int[] long320 = new int[320];
        System.arraycopy(long160, 0, long320, 0, 160);
        run("p 0 .. 4: never 5", 16, long320).calls("pack() 0", "row(0, 3) 4", "row(0, 26) BAD", "row(0, 13) 15",
            "row(0, 33) 16");
    }

    /** A step: RESTS of order 4 are 0 but for four of them. */
    private static int[] step(int n) {
        int[] v = new int[n];
        for (int i = n / 2; i < n; i++) {
            v[i] = 30001;
        }
        return v;
    }

    private static void shortParts() {
        String sentence = "n / 2^p is o or more";
        long fourth = 4 | (-6 & 1023L) << 10 | 4L << 20 | (-1 & 1023L) << 30;
        // n / 16 is 4: 14 PARTS of four 0s, one of 18 bits each, and one without RESTS
        run(sentence, 16, step(64)).calls("price(0, 6) 271").due("coefficients(4, 0, " + fourth + ")", 0)
            .calls("price(0, 7) 317");
        // n / 16 is 3, n / 8 is 6: six 0s have 5 bits
        run(sentence, 16, step(48)).calls("price(0, 6) 251").due("coefficients(4, 0, " + fourth + ")", 0)
            .calls("price(0, 7) 297");
        int[] v = new int[64];
        for (int i = 0; i < 64; i++) {
            int at = i < 32 ? i - 16 : i - 48;
            v[i] = i < 32 ? 5 * at * at * at + 1 : -7 * at * at * at + 2;
        }
        int[] rests = row(8193, -33711, 42963, -17517);
        StringBuilder loud = new StringBuilder();
        for (int e : rests) {
            int u = e < 0 ? -2 * e - 1 : 2 * e;
            loud.append("1".repeat(u / 16384)).append('0').append(bits(u, 14));
        }
        run("PARTS, each of n / 2^p RESTS, the first one of o fewer", 16, v).calls("pack() 0", "row(0, 0) 6",
            "row(0, 2) 266", "row(0, 3) 4", "row(0, 10) 0", "row(0, 30) NONE", "row(0, 18) 14", "row(0, 38) NONE",
            "row(0, 25) 0", "row(0, 26) BAD", "row(0, 45) NONE", "row(0, 46) BAD")
            .dueFrame(0, "000111111" + DEPTH_16 + "110 0000" + bits(v, 0, 4, 16) + "100 0000" + " 0000 0000".repeat(7)
                + " 1110" + loud + " 0000 0000".repeat(7))
            .calls("open(0) 64").dueChannel(0, v);
    }

    private static void widths() {
        String sentence = "k 15: x in 5 bits (0 .. 24), each REST in x bits (of 0 bits it is 0)";
        int[] line = polynomial(8, 0, 0, 1001, 3);
        run(sentence, 16, line).calls("pack() 0", "row(0, 10) 15", "row(0, 30) 0")
            .dueFrame(0, "000000111" + DEPTH_16 + "100 0000" + bits(line, 0, 2, 16) + " 000 1111 00000")
            .calls("open(0) 8").dueChannel(0, line);
        // five RESTS of 0 have as many bits with k 0
        line = polynomial(7, 0, 0, 1001, 3);
        run("in each PART the k likewise", 16, line).calls("pack() 0", "row(0, 10) 0", "row(0, 30) NONE")
            .dueFrame(0, "000000110" + DEPTH_16 + "100 0000" + bits(line, 0, 2, 16) + " 000 0000 00000")
            .calls("open(0) 7").dueChannel(0, line);
        run("in each PART the k likewise: 0 and 1 have as many bits", 16, WatchedRun.repeated(8, 1000, 1001))
            .calls("pack() 0", "row(0, 10) 0")
            .dueFrame(0, "000000111" + DEPTH_16 + "011 0000 0000001111101000 000 0000 110 10 110 10 110 10 110");
        sentence = "x the least that all of its RESTS have room in";
        run(sentence + ": 7 and -8", 16, WatchedRun.repeated(16, 7, -8)).calls("pack() 0", "row(0, 10) 15", "row(0, 30) 4")
            .dueFrame(0, "000001111" + DEPTH_16 + "010 0000 000 1111 00100" + " 0111 1000".repeat(8));
        run(sentence + ": 8 and -7", 16, WatchedRun.repeated(16, 8, -7)).calls("pack() 0", "row(0, 10) 15", "row(0, 30) 5")
            .dueFrame(0, "000001111" + DEPTH_16 + "010 0000 000 1111 00101" + " 01000 11001".repeat(8));
        run(sentence + ": 7 and -9", 16, WatchedRun.repeated(16, 7, -9)).calls("pack() 0", "row(0, 10) 15", "row(0, 30) 5")
            .dueFrame(0, "000001111" + DEPTH_16 + "010 0000 000 1111 00101" + " 00111 10111".repeat(8));
    }

    /** A REST with two 1s: k has as many bits as k + 1, and fewer than any other one. */
    private static void everyK() {
        String sentence = "A PART: k 0 .. 14: u / 2^k (cut) times a bit 1, a bit 0, the k lowest bits of u";
        for (int k = 0; k <= 5; k++) {
            int e = k == 0 ? 1 : -(1 << k) - 1;
            run(sentence, 16, e).calls("pack() 0").due("row(0, 10)", k)
                .dueFrame(0, "000000000" + DEPTH_16 + "010 0000 000" + bits(k, 4) + "110" + bits(k == 0 ? 0 : 1, k))
                .calls("open(0) 1").dueChannel(0, e);
        }
        for (int k = 6; k <= 14; k++) {
            int[] v = row(0, 0, 0, 0, 0, 0, 1 << k, -(1 << k) - 1);
            run(sentence, 16, v).calls("pack() 0", "row(0, 3) 2").due("row(0, 13)", k)
                .dueFrame(0, "000000111" + DEPTH_16 + "010 0000 010" + " 0000 00".repeat(3) + bits(k, 4)
                    + "110" + bits(0, k) + "110" + bits(1, k))
                .calls("open(0) 8").dueChannel(0, v);
        }
    }

    private static void kindTies() {
        String sentence = "the one with the fewest bits, of like ones the first";
        // depth, the first KIND, another one, their bits, and the values
        int[][] ties = {
            {1, 0, 1, 8, 0}, {9, 0, 2, 16, 0, 0}, {8, 0, 2, 15, 0}, {8, 1, 2, 23, 2, 5}, {9, 1, 3, 25, 9, 8},
            {3, 1, 2, 28, 3, -1, 0, 0, 0, 0, 0},
            {9, 1, 4, 34, 6, 20, 33}, {8, 1, 5, 39, 1, 6, 20, 43}, {8, 1, 6, 47, 15, 4, 15, 37, 59},
            {10, 2, 3, 26, 9, 8}, {9, 2, 4, 33, 1, 14, 27}, {6, 2, 5, 35, 0, 3, 3, -1, -9},
            {8, 2, 6, 69, 0, 0, 1, 0, -3, -8, -9, 11, 68}, {7, 3, 4, 30, 2, 3, 4, 5}, {6, 3, 5, 35, 13, 7, 3, 1, 0},
            {7, 3, 6, 44, 6, 12, 11, 6, 0, -4}, {9, 4, 5, 42, 7, 20, 38, 61}, {7, 4, 6, 48, 5, 15, 31, 48, 60, 63},
            {7, 5, 6, 54, 0, 0, 1, 3, 9, 27, 63},
        };
        for (int[] tie : ties) {
            tie(run(sentence), tie);
        }
        tie(run(sentence).calls("coefficients(1, 1, 3) 0"), 9, 1, 7, 43, 30, 44, 66, 99);
        tie(run(sentence).calls("coefficients(1, 0, 3) 0"), 13, 2, 7, 45, 49, 147, 441);
        tie(run(sentence).calls("coefficients(1, 1, 3) 0"), 10, 3, 7, 44, 28, 42, 62, 93);
        tie(run(sentence).calls("coefficients(1, 2, 3) 0"), 9, 4, 7, 42, -109, -82, -62, -47);
        tie(run(sentence).calls("coefficients(1, 1, 1) 0"), 6, 5, 7, 41, 28, 14, 7, 3, 1, 0);
        tie(run(sentence).due("coefficients(3, 0, " + (2 | 1022L << 10) + ")", 0), 8, 6, 7, 83,
            -33, 0, -8, -16, -16, 1, 34, 66, 64, -4);
        // a bit fewer, and it is the later one
        run(sentence, 9, 0).calls("price(0, 0) 16", "price(0, 1) 16", "price(0, 2) 15", "pack() 0", "row(0, 0) 2");
        run(sentence, 3, 2, -1, 0, 0, 0, 0, 0).calls("price(0, 1) 28", "price(0, 2) 26", "pack() 0", "row(0, 0) 2");
    }

    private static void tie(WatchedRun r, int... tie) {
        int[] v = new int[tie.length - 4];
        System.arraycopy(tie, 4, v, 0, v.length);
        r.due("depth(" + tie[0] + ")", 16).samples(0, v)
            .due("price(0, " + tie[1] + ")", tie[3]).due("price(0, " + tie[2] + ")", tie[3])
            .calls("pack() 0").due("row(0, 0)", tie[1]).due("row(0, 2)", tie[3]).due("told(3)", 16 + tie[3])
            .due("open(0)", v.length).due("shown(5)", tie[1]).dueChannel(0, v);
    }

    private static void partTies() {
        String sentence = "in it the p of the fewest bits, the first";
        run(sentence + ": 0 and 1", 16, 33, -1).calls("pack() 0", "row(0, 0) 2", "row(0, 2) 28", "row(0, 3) 0");
        run(sentence + ": 0 and 2", 16, 300, 0, 300, -5).calls("pack() 0", "row(0, 0) 2", "row(0, 2) 54", "row(0, 3) 0");
        run(sentence + ": 1 and 2", 16, 300, 0, 1, 0).calls("pack() 0", "row(0, 0) 2", "row(0, 2) 42", "row(0, 3) 1");
        run(sentence + ": 2 and 3", 16, 33, 0, 0, 0, 3000, 0, 0, 0).calls("pack() 0", "row(0, 0) 2", "row(0, 2) 70",
            "row(0, 3) 2");
        run(sentence + ": 3 and 4", 16, 5, 0, 0, 0, 0, 0, 33, 0, 20000, 0, 0, 0, 3000, 0, 1, 0).calls("pack() 0",
            "row(0, 0) 2", "row(0, 2) 132", "row(0, 3) 3");
    }

    private static void turnTies() {
        String sentence = "A FRAME has the TURN of the fewest bits, the first";
        // depth, channel 0, channel 1, the TURN, the ROWS' bits: all alike; 0 and 1; 0 and 2; 0 and 3; and so on
        int[][] ties = {
            {9, 2, 2, 0, 30}, {5, 2, 0, 0, 23}, {9, 7, 8, 0, 29}, {4, 2, 7, 0, 21}, {4, 1, 5, 1, 21}, {10, 4, 5, 1, 31},
            {11, 3, 2, 2, 34},
            // one bit fewer, though as many bytes
            {9, 1, 0, 0, 31}, {4, 4, 0, 1, 19}, {4, 0, 4, 2, 19}, {3, 1, 3, 3, 19},
        };
        for (int[] tie : ties) {
            run(sentence, tie[0], tie[1]).samples(1, tie[2]).calls("pack() 0").due("told(2)", tie[3])
                .due("told(3)", 16 + tie[4]).calls("open(0) 1").due("shown(2)", tie[3])
                .dueChannel(0, tie[1]).dueChannel(1, tie[2]);
        }
        run(sentence, 4, 4, 2).samples(1, 6, 4).calls("pack() 0", "told(2) 1", "told(3) 40");
        run(sentence, 1, 0, -1).samples(1, 0, -1).calls("pack() 0", "told(2) 0", "told(3) 34");
        run(sentence, 1, 0, -1, 0).samples(1, 0, -1, 0).calls("pack() 0", "told(2) 1", "told(3) 35");
    }

    private static void packed() {
        run("All SAMPLES (they stay) are a FRAME more behind THE STREAM: its place", 4, 7, -8).samples(1, 3, 2)
            .calls("add(9) 1", "pack() 1", "size() 8", "pack() 8", "size() 15", "at(0) 9", "drop(0) 2", "drop(1) 2",
                "open(1) 2").dueChannel(0, 7, -8).dueChannel(1, 3, 2)
            .calls("open(8) 2").dueChannel(0, 7, -8).dueChannel(1, 3, 2);
        run("NO: channel 0 has none, or channel 1 has some, but not as many").calls(
            "pack() NO", "sample(1, 1) 1", "pack() NO", "sample(0, 1) 1", "pack() 0", "sample(0, 1) 2", "pack() NO",
            "sample(1, 1) 2", "told(1) 2", "drop(1) 2", "sample(1, 1) 1", "sample(1, 1) 2", "sample(1, 1) 3", "pack() NO",
            "drop(0) 2", "pack() NO", "drop(1) 3", "pack() NO", "sample(0, 9) 1", "size() 7", "pack() 7", "told(1) 1");
        // frames of 6 bytes
        run("FULL: there is no room", 16, WatchedRun.noise(98)).calls("pack() 0", "pack() 200", "pack() 400", "pack() 600",
            "pack() 800", "pack() 1000", "pack() 1200", "pack() 1400", "pack() 1600", "pack() 1800", "pack() 2000",
            "drop(0) 98", "sample(0, 10001) 1", "pack() 2200", "told(4) 6", "cut(2200) 6")
            .bits("10101010".repeat(195))
            .calls("size() 2395", "pack() FULL", "size() 2395", "told(0) 1", "cut(2394) 1", "pack() 2394", "size() 2400",
                "pack() FULL", "open(2394) 1", "shown(4) 2400", "got(0, 0) 10001");
    }

    private static void rowTold() {
        run("Of ROW 0, 1 of the latest pack(): NO: there was none", 16, 8, 8).calls(
            "row(0, 0) NO", "row(0, 1) NO", "row(0, 2) NO", "row(0, 3) NO", "row(1, 0) NO", "row(1, 3) NO",
            "row(-1, 0) BAD", "row(2, 0) BAD", "row(least, 0) BAD", "row(most, 0) BAD",
            "row(0, -1) BAD", "row(0, 4) BAD", "row(0, least) BAD", "row(0, most) BAD",
            "sample(1, 0) 1", "pack() NO", "row(0, 0) NO");
        run("3 p (NONE without RESTS); BAD: also no such ROW, PART", 16, 8, 8).calls("pack() 0",
            "row(0, 0) 0", "row(0, 1) 3", "row(0, 2) 20", "row(0, 3) NONE", "row(0, 10) BAD", "row(0, 30) BAD",
            "row(0, -1) BAD", "row(0, 4) BAD", "row(0, 9) BAD", "row(0, 25) BAD", "row(0, 26) BAD", "row(0, 29) BAD",
            "row(0, 45) BAD", "row(0, 46) BAD", "row(0, least) BAD", "row(0, most) BAD",
            "row(1, 0) BAD", "row(1, 3) BAD", "row(1, 10) BAD", "row(-1, 0) BAD", "row(2, 0) BAD", "row(most, 0) BAD");
        run("3 p (NONE without RESTS): of PLAIN", 3, 3, -4, 1).calls("pack() 0", "row(0, 0) 1", "row(0, 1) 0", "row(0, 2) 16",
            "row(0, 3) NONE", "row(0, 10) BAD", "row(0, 30) BAD");
        run("3 p (NONE without RESTS): of the second ROW, the first one has them", 16, 1, -1, 1, -1, 1, -1, 0, 0)
            .samples(1, 1001, 1001, 1001, 1001, 1001, 1001, 1001, 1001).calls("pack() 0", "told(2) 0", "row(0, 0) 2",
            "row(0, 3) 0", "row(0, 10) 0", "row(1, 0) 0", "row(1, 3) NONE", "row(1, 10) BAD", "row(1, 30) BAD");
        run("10 + j: k of PART j, 30 + j: its x (NONE: k is not 15)", 16, 33, -1).calls("pack() 0", "row(0, 3) 0",
            "row(0, 10) 4", "row(0, 11) BAD", "row(0, 30) NONE", "row(0, 31) BAD", "row(1, 0) BAD");
        run("no such ROW: the latest pack() had one, the one ahead two", 16, 8, 8).samples(1, 1001, 1003).calls("pack() 0",
            "row(1, 0) 3", "row(2, 0) BAD", "drop(1) 2", "row(1, 0) 3", "pack() 10", "row(1, 0) BAD", "row(0, 0) 0");
    }

    private static void price() {
        run("BAD: also no SAMPLES", 5).calls("price(0, 0) BAD", "price(1, 0) BAD", "price(0, 7) BAD", "price(0, -1) BAD",
            "sample(1, 1) 1", "price(0, 1) BAD", "price(1, 1) 12", "sample(0, 1) 1", "price(0, 1) 12", "drop(0) 1",
            "price(0, 1) BAD");
        run("price: BAD", 5, 1).calls("price(0, -1) BAD", "price(0, 8) BAD", "price(0, least) BAD", "price(0, most) BAD",
            "price(-1, 0) BAD", "price(2, 0) BAD", "price(least, 0) BAD", "price(most, 0) BAD", "price(0, 0) 12");
        run("of DEPTH bits, whatever the other channel has", 5, 1, 2).samples(1, -16, 15, 3).calls("price(0, 1) 17",
            "price(1, 1) 22", "price(0, 0) NO", "size() 0", "told(0) NO", "drop(0) 2", "price(1, 1) 22");
        run("NO: the KIND may not be", 5, 1, 2).calls("price(0, 0) NO", "price(0, 5) NO", "price(0, 6) NO", "price(0, 7) NO",
            "coefficients(3, 0, 0) 0", "price(0, 7) NO", "sample(0, 3) 3", "price(0, 7) 65", "price(0, 5) 29", "price(0, 6) NO");
        run("what price() tries does not show", 16, 8, 8).calls("pack() 0", "price(0, 6) NO", "price(0, 2) 20", "row(0, 0) 0",
            "row(0, 3) NONE", "told(3) 36", "price(0, 2) 20", "pack() 6", "row(0, 0) 0", "row(0, 3) NONE", "row(0, 10) BAD",
            "row(0, 30) BAD");
    }

    public static void main(String[] args) {
        heads();
        sums();
        numbers();
        turns();
        sideBits();
        longRows();
        wasted();
        kinds();
        fixedOrders();
        foretold();
        roomOf24();
        parts();
        shortParts();
        widths();
        everyK();
        kindTies();
        partTies();
        turnTies();
        packed();
        rowTold();
        price();
        WatchedRun.end();
    }
}
