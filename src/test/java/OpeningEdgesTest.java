/**
 * The edges that the document names for OPENING a FRAME, a run for each sentence: each of the FAULTS with
 * the last input that has it not, which of two shows first, and frames that pack() would write otherwise.
 */
public final class OpeningEdgesTest {
    private static final String ONE_16 = "000000000 0 00 1111  ";

    private static WatchedRun run(String sentence) {
        return new WatchedRun(sentence);
    }

    private static String bits(long v, int count) {
        return WatchedRun.bits(v, count);
    }

    /** A frame that opens; ahead of it stands a byte, and with a byte fewer it is at its end too early. */
    private static WatchedRun opens(String sentence, String frame, int n) {
        WatchedRun r = run(sentence).calls("add(255) 1").frame(frame).due("open(1)", n);
        long size = r.call("size()");
        return r.due("shown(4)", size).due("shown(0)", n).due("cut(" + (size - 1) + ")", 1).calls("open(1) -11");
    }

    /** A fault that shows by these bits, whether the stream ends with them, or has a sum, or 1s behind them. */
    private static void fault(String sentence, int fault, String bits) {
        int want = -10 - fault;
        run(sentence).bits(bits).due("open(0)", want).calls("shown(0) NO", "frames() -10");
        run(sentence).frame(bits).due("open(0)", want).calls("shown(0) NO", "frames() -10");
        run(sentence).bits(bits).bits("1".repeat(80)).due("open(0)", want);
    }

    /** A stream of these bytes alone, which ends where a bit is wanted. */
    private static void ends(String sentence, String bits) {
        run(sentence).bits(bits).calls("open(0) -11", "frames() -10", "shown(0) NO");
    }

    private static void ends() {
        String sentence = "1 THE STREAM ends where a bit is wanted: ";
        ends(sentence + "of n", "00000000");
        ends(sentence + "of n, which is above 400 anyhow", "11111111");
        ends(sentence + "of KIND", "000000000 0 00 1111");
        // the second row's KIND is the last of the byte; its order shows behind w alone
        ends(sentence + "of w", "000000000 1 00 0101  000 0000 000001  110");
        ends(sentence + "of the order", "000000000 1 00 0001  000 0000 01  111 0000");
        ends(sentence + "of a LIKE value", ONE_16 + "000 0000 0");
        ends(sentence + "of a PLAIN value", ONE_16 + "001 0000 000000001");
        ends(sentence + "of the last PLAIN value", "000000001" + " 0 00 1111  001 0000 0000000000000000 0");
        ends(sentence + "of SHIFT", "000000000 1 00 1111  000 0000 0000000000000001  111 0000 00");
        ends(sentence + "of c1", ONE_16 + "111 0000 00 0000 00000");
        ends(sentence + "of p", "000000000 1 00 0001  000 0000 01  010 0000");
        ends(sentence + "of k", "000000000 1 00 1110  000 0000 000000000000001  010 0000 000");
        ends(sentence + "of x", "000000000 0 00 0101  011 0000 000001 000 1111");
        ends(sentence + "of a REST's 1s", ONE_16 + "010 0000 000 0000 11");
        ends(sentence + "of a REST's bit 0", ONE_16 + "010 0000 000 0000 1111111111");
        ends(sentence + "of a REST's lowest bits", ONE_16 + "010 0000 000 0011 0");
        ends(sentence + "of a REST of x bits", ONE_16 + "010 0000 000 1111 10000 00000");
        ends(sentence + "of THE SUM", ONE_16 + "000 0000 0000000000000001");
        run(sentence + "a frame of the whole stream has its last bit").frame(ONE_16 + "000 0000 0000000000000001")
            .calls("open(0) 1", "shown(4) 6", "size() 6");
    }

    private static void heads() {
        String sentence = "2 n is above 400";
        opens(sentence, "110001111 0 00 0000  000 0000 1", 400);
        fault(sentence, 2, "110010000 0 00 0000");
        fault(sentence, 2, "111111111 0 00 0000");
        fault(sentence + ", ahead of TURN", 2, "110010000 0 11 0000");
        sentence = "3 a TURN that is not 0 with one channel";
        opens(sentence, "000000000 0 00 0000  000 0000 1", 1);
        fault(sentence, 3, "000000000 0 01 0000");
        fault(sentence, 3, "000000000 0 10 0000");
        fault(sentence, 3, "000000000 0 11 0000");
        for (int turn = 0; turn <= 3; turn++) {
            String zero = turn == 2 ? "000 0000 00" : "000 0000 0";
            String one = turn == 1 || turn == 3 ? "000 0000 00" : "000 0000 0";
            opens(sentence + ": with two it may be", "000000000 1 " + bits(turn, 2) + " 0000" + zero + one, 1)
                .due("shown(2)", turn).calls("shown(1) 2").dueChannel(0, 0).dueChannel(1, 0);
        }
    }

    private static void wasted() {
        String sentence = "4 w is not below b";
        for (int depth = 1; depth <= 15; depth++) {
            String head = "000000000 0 00 " + bits(depth - 1, 4);
            opens(sentence, head + " 000 " + bits(depth - 1, 4) + " 1", 1).dueChannel(0, -(1 << (depth - 1)));
            fault(sentence, 4, head + " 000 " + bits(depth, 4));
            fault(sentence, 4, head + " 001 1111");
        }
        opens(sentence + ": 15 is below 16", ONE_16 + "000 1111 1", 1).dueChannel(0, -32768);
        opens(sentence + ": a side has a bit more", "000000000 1 01 0011  000 0000 0000  000 0100 0", 1).dueChannel(1, 0);
        fault(sentence + ": a side has a bit more", 4, "000000000 1 01 0011  000 0000 0000  000 0101");
        opens(sentence + ": a side has a bit more", "000000000 1 10 0011  000 0100 0  000 0000 0000", 1);
        fault(sentence + ": a side has a bit more", 4, "000000000 1 10 0011  000 0101");
        fault(sentence + ": a channel has not", 4, "000000000 1 10 0011  000 0100 0  000 0100");
        fault(sentence + ": a channel has not", 4, "000000000 1 01 0011  000 0100");
        fault(sentence + ": a middle has not", 4, "000000000 1 11 0011  000 0100");
        fault(sentence + ": in each ROW", 4, "000000000 1 00 0011  000 0000 0000  000 0100");
        fault(sentence + ", ahead of an order above n", 4, "000000000 0 00 0011  110 0100");
    }

    private static void orders() {
        String sentence = "5 an order above n (behind w, of FIXED, too)";
        for (int order = 1; order <= 4; order++) {
            String head = bits(order - 1, 9) + " 0 00 0011  ";
            String values = "0001".repeat(order);
            opens(sentence, head + bits(order + 2, 3) + " 0000" + values + " 000 0000", order);
            opens(sentence, head + "111 0000 " + bits(order - 1, 2) + " 0000" + "0000000000".repeat(order) + values
                + " 000 0000", order);
            if (order > 1) {
                head = bits(order - 2, 9) + " 0 00 0011  ";
                fault(sentence, 5, head + bits(order + 2, 3) + " 0000");
                fault(sentence, 5, head + "111 0000 " + bits(order - 1, 2));
            }
        }
        opens(sentence + ": order 0", "000000000 0 00 0011  010 0000 000 0000 0", 1);
        // of two channels the second row, too
        fault(sentence + ": in each ROW", 5, "000000000 1 00 0101  000 0000 000001  100 0000");
        fault(sentence + ": in each ROW", 5, "000000000 1 00 0001  000 0000 01  111 0000 01");
    }

    private static void partCounts() {
        String sentence = "6 p is above 4";
        opens(sentence, bits(127, 9) + " 0 00 0011  010 0000 100" + (" 0000" + "0".repeat(8)).repeat(16), 128);
        for (int p = 5; p <= 7; p++) {
            fault(sentence, 6, bits(127, 9) + " 0 00 0011  010 0000 " + bits(p, 3));
        }
        sentence = "6 2^p does not divide n";
        for (int p = 1; p <= 4; p++) {
            int each = 1 << p;
            opens(sentence, bits(3 * each - 1, 9) + " 0 00 0011  010 0000 " + bits(p, 3) + " 0000 000".repeat(each), 3 * each);
            fault(sentence, 6, bits(3 * each, 9) + " 0 00 0011  010 0000 " + bits(p, 3));
            fault(sentence, 6, bits(3 * each - 2, 9) + " 0 00 0011  010 0000 " + bits(p, 3));
            fault(sentence, 6, bits(each / 2 - 1, 9) + " 0 00 0011  010 0000 " + bits(p, 3));
        }
        sentence = "6 n / 2^p is less than o";
        for (int order = 2; order <= 4; order++) {
            String values = "0001".repeat(order);
            String kind = bits(order + 2, 3) + " 0000" + values;
            String told = "111 0000 " + bits(order - 1, 2) + " 1111" + "0000000000".repeat(order) + values;
            // as many as o: the first PART has no REST; the values go on as 1 if FIXED foretells them
            String rests = " 001 0000 0000" + "0".repeat(order);
            opens(sentence, bits(2 * order - 1, 9) + " 0 00 0011  " + kind + rests, 2 * order)
                .dueChannel(0, WatchedRun.repeated(2 * order, 1));
            opens(sentence, bits(2 * order - 1, 9) + " 0 00 0011  " + told + rests, 2 * order);
            fault(sentence, 6, bits(2 * order - 3, 9) + " 0 00 0011  " + kind + " 001");
            fault(sentence, 6, bits(2 * order - 3, 9) + " 0 00 0011  " + told + " 001");
        }
    }

    private static void widths() {
        String sentence = "7 x above 24";
        for (int x = 0; x <= 31; x++) {
            String row = ONE_16 + "010 0000 000 1111 " + bits(x, 5);
            String empty = ONE_16 + "011 0000 0000000000000101 000 1111 " + bits(x, 5);
            if (x <= 24) {
                opens(sentence, row + bits(-1, x), 1).dueChannel(0, x == 0 ? 0 : -1);
                opens(sentence + ": of a PART without RESTS", empty, 1).dueChannel(0, 5);
            } else {
                fault(sentence, 7, row);
                fault(sentence + ": of a PART without RESTS", 7, empty);
            }
        }
        fault(sentence + ": of the last PART", 7, "000000001 0 00 1111  010 0000 001 0000 0 1111 11001");
    }

    private static void values() {
        String sentence = "8 a value (as soon as it is known) that does not fit in b bits";
        String head = "000000001 0 00 0011  010 0000 000 1111 00101 ";
        opens(sentence, head + "00111 11000", 2).dueChannel(0, 7, -8);
        fault(sentence, 8, head + "01000");
        fault(sentence, 8, head + "10111");
        fault(sentence + ": the last of them", 8, head + "00111 01000");
        // w 2 leaves two bits: -2 .. 1
        head = "000000001 0 00 0011  010 0010 000 1111 00011 ";
        opens(sentence + ": b less w", head + "001 110", 2).dueChannel(0, 4, -8);
        fault(sentence + ": b less w", 8, head + "010");
        fault(sentence + ": b less w", 8, head + "101");
        // a side of DEPTH 4 has 5 bits
        head = "000000000 1 01 0011  000 0000 0111  010 0000 000 1111 00110 ";
        opens(sentence + ": of a side", head + "001111", 1).dueChannel(1, -8);
        fault(sentence + ": of a side", 8, head + "010000");
        fault(sentence + ": of a side", 8, head + "101111");
        head = "000000001 0 00 0011  011 0000 0111 000 1111 00110 ";
        opens(sentence + ": foretold and REST together", head + "110001", 2).dueChannel(0, 7, -8);
        fault(sentence + ": foretold and REST together", 8, head + "000001");
        fault(sentence + ": foretold and REST together", 8, head + "110000");
        // 511 times 64, and no REST
        head = "000000001 0 00 1111  111 0000 00 0000 0111111111 ";
        opens(sentence + ": by COEFFICIENTS", head + bits(64, 16) + " 000 1111 00000", 2).dueChannel(0, 64, 32704);
        fault(sentence + ": by COEFFICIENTS", 8, head + bits(65, 16) + " 000 1111 00000");
        head = "000000001 0 00 1111  111 0000 00 0000 1000000000 ";
        opens(sentence + ": by COEFFICIENTS", head + bits(64, 16) + " 000 1111 00000", 2).dueChannel(0, 64, -32768);
        fault(sentence + ": by COEFFICIENTS", 8, head + bits(65, 16) + " 000 1111 00000");
        // -64 times -512 is 32768; a REST brings it back
        fault(sentence + ": by COEFFICIENTS", 8, head + bits(-64, 16) + " 000 1111 00000");
        opens(sentence + ": by COEFFICIENTS", head + bits(-64, 16) + " 000 1111 00001 1", 2).dueChannel(0, -64, 32767);
    }

    private static void greatRests() {
        String sentence = "8 a REST with u of 2^24 or more (as soon as its 1s tell it: so many times 2^k)";
        // c1 -256: -32768 foretells 2^23, so that a REST of -2^23 is right: u is 2^24 - 1
        String head = "000000001 0 00 1111  111 0000 00 0000 1100000000 1000000000000000 000 ";
        opens(sentence, head + "1110 " + "1".repeat(1023) + "0" + "1".repeat(14), 2).dueChannel(0, -32768, 0);
        opens(sentence, head + "1101 " + "1".repeat(2047) + "0" + "1".repeat(13), 2).dueChannel(0, -32768, 0);
        opens("k 15: x of 24 bits, the least REST", head + "1111 11000 " + bits(-(1 << 23), 24), 2).dueChannel(0, -32768, 0);
        // 40 bits ahead, so that the last 1 ends a byte
        head = "000000001 0 00 1001  011 0000 0000000001 000 ";
        for (int k = 13; k <= 14; k++) {
            int many = 1 << (24 - k);
            run(sentence + ", k " + k).bits(head + bits(k, 4) + "1".repeat(many)).calls("open(0) -18")
                .due("cut(" + (5 + many / 8 - 1) + ")", 1).calls("open(0) -11", "add(254) " + (5 + many / 8), "open(0) -11");
        }
    }

    private static void ends9And10() {
        String sentence = "9 a bit up to the whole byte is not 0";
        opens(sentence, "000000000 0 00 0001  000 0000 01", 1);
        for (int i = 0; i < 7; i++) {
            fault(sentence, 9, "000000000 0 00 0001  000 0000 01" + bits(64 >> i, 7));
        }
        fault(sentence, 9, ONE_16 + "000 0000 0000000000000001 1");
        opens(sentence + ": there is none", "000000000 0 00 0000  000 0000 1", 1);
        sentence = "10 THE SUM is another one";
        WatchedRun r = run(sentence).bits("000000000 0 00 0000  000 0000 1").calls("add(0) 4");
        int was = 0;
        for (int sum = 0; sum <= 255; sum += sum == 6 || sum == 7 ? 1 : 3) {
            r.due("alter(3, " + sum + ")", was).due("open(0)", sum == 7 ? 1 : -20);
            was = sum;
        }
        // any other byte that opens so far
        run(sentence).frame(ONE_16 + "000 0000 0000000000000001").calls("open(0) 1", "alter(4, 6) 2", "open(0) -20",
            "alter(4, 3) 6", "open(0) -19", "alter(4, 2) 3", "open(0) 1");
    }

    private static void turnedSamples() {
        String sentence = "11 a channel's SAMPLE does not fit DEPTH bits: ";
        String first = "000000000 1 01 0011  000 0000 ";
        opens(sentence + "TURN 1", first + "0111  000 0000 01111", 1).dueChannel(0, 7).dueChannel(1, -8);
        opens(sentence + "TURN 1", first + "1000  000 0000 10001", 1).dueChannel(0, -8).dueChannel(1, 7);
        lastFault(sentence + "TURN 1, -9", first + "0110  000 0000 01111");
        lastFault(sentence + "TURN 1, 8", first + "1001  000 0000 10001");
        String second = "000000000 1 10 0011  000 0000 ";
        opens(sentence + "TURN 2", second + "01111  000 0000 1000", 1).dueChannel(0, 7).dueChannel(1, -8);
        opens(sentence + "TURN 2", second + "10001  000 0000 0111", 1).dueChannel(0, -8).dueChannel(1, 7);
        lastFault(sentence + "TURN 2, 8", second + "01111  000 0000 1001");
        lastFault(sentence + "TURN 2, -9", second + "10001  000 0000 0110");
        String third = "000000000 1 11 0011  000 0000 ";
        opens(sentence + "TURN 3", third + "1111  000 0000 01111", 1).dueChannel(0, 7).dueChannel(1, -8);
        opens(sentence + "TURN 3", third + "1111  000 0000 10001", 1).dueChannel(0, -8).dueChannel(1, 7);
        lastFault(sentence + "TURN 3, channel 0 is 8", third + "0000  000 0000 01111");
        lastFault(sentence + "TURN 3, channel 1 is 8", third + "0111  000 0000 11111");
        lastFault(sentence + "TURN 3, channel 0 is -9", third + "1000  000 0000 11110");
        lastFault(sentence + "TURN 3, channel 1 is -9", third + "1000  000 0000 00010");
        lastFault(sentence + "the last one of three",
            "000000010 1 01 0011  000 0000 0111  001 0000 00000 01111 10000");
        // a side of -65536, w 15, in two bits
        lastFault(sentence + "the least side", "000000000 1 01 1111  000 0000 1000000000000000  000 1111 10");
        lastFault(sentence + "the least side", "000000000 1 10 1111  000 1111 10  000 0000 0111111111111111");
        lastFault(sentence + "the least side", "000000000 1 11 1111  000 0000 0000000000000000  000 1111 10");
    }

    /** Fault 11 shows behind THE SUM alone. */
    private static void lastFault(String sentence, String frame) {
        WatchedRun r = run(sentence).frame(frame).calls("open(0) -21", "shown(0) NO", "take() NO", "frames() -10");
        long last = r.call("size()") - 1;
        long sum = r.call("at(" + last + ")");
        r.due("alter(" + last + ", " + (sum ^ 128) + ")", sum).calls("open(0) -20");
        r.due("cut(" + last + ")", 1).calls("open(0) -11");
    }

    private static void middles() {
        String sentence = "both together are 2 m, and 1 more, if s is odd; channel 0 is half of that and s together";
        int[][] cases = {
            {0, 0, 0, 0}, {0, 1, 1, 0}, {0, -1, 0, 1}, {-1, 1, 0, -1}, {-1, -1, -1, 0}, {-2, 3, 0, -3}, {-2, -3, -3, 0},
            {-1, 2, 0, -2}, {3, -4, 1, 5}, {-8, 0, -8, -8}, {7, 0, 7, 7}, {-8, 1, -7, -8}, {-8, -1, -8, -7}, {6, 1, 7, 6},
        };
        for (int[] c : cases) {
            opens(sentence, "000000000 1 11 0011  000 0000" + bits(c[0], 4) + "  000 0000" + bits(c[1], 5), 1)
                .dueChannel(0, c[2]).dueChannel(1, c[3]);
        }
    }

    private static void otherWays() {
        String sentence = "OPENING: what pack() would write otherwise";
        opens(sentence + ": w is not the greatest", ONE_16 + "000 0001 000000000000100", 1).dueChannel(0, 8);
        opens(sentence + ": w is not 0 where all values are 0", ONE_16 + "000 1111 0", 1).dueChannel(0, 0);
        opens(sentence + ": PLAIN, but alike", "000000010 0 00 0001  001 0000 01 01 01", 3).dueChannel(0, 1, 1, 1);
        opens(sentence + ": x is not the least", "000000001 0 00 0011  010 0000 000 1111 00110 000001 111111", 2)
            .dueChannel(0, 1, -1);
        opens(sentence + ": k is not the best", "000000001 0 00 0011  010 0000 000 0111 0 0000010 0 0000001", 2)
            .dueChannel(0, 1, -1);
        opens(sentence + ": p is not the best", "000000001 0 00 0011  010 0000 001 0000 110 0001 0 1", 2).dueChannel(0, 1, -1);
        opens(sentence + ": w with FORETOLD",
            "000000010 0 00 0111  111 0010 00 0001 0000000011 000101 000 0001 0 0 0 1", 3).dueChannel(0, 20, 28, 36);
        // order 4, SHIFT 15, of -512 and 511: 1, 2, 3, 4 foretell (-2048 + 1533 - 1024 + 511) by 2^15: -1
        opens(sentence + ": COEFFICIENTS of order 4", "000000100 0 00 0011  111 0000 11 1111 1000000000 0111111111"
            + " 1000000000 0111111111  0001 0010 0011 0100  000 0000 0", 5).dueChannel(0, 1, 2, 3, 4, -1);
        // a SHIFT of 3 in the first row does not count in the second one
        opens(sentence + ": FIXED behind FORETOLD", "000000001 1 00 0011  111 0000 00 0011 0000001000 0101 000 0000 0"
            + "  011 0000 0110 000 0000 0", 2).dueChannel(0, 5, 5).dueChannel(1, 6, 6);
        opens(sentence + ": both rows in the other ways", "000000001 1 11 0011  001 0000 0010 1111  011 0000 00001 000 0010 1000",
            2).dueChannel(0, 3, 1).dueChannel(1, 2, -2);
    }

    private static void places() {
        String frame = ONE_16 + "000 0000 0000000000000001";
        run("open: BAD: there is no such byte").calls("open(0) BAD", "open(-1) BAD").frame(frame)
            .calls("open(6) BAD", "open(-1) BAD", "open(least) BAD", "open(most) BAD", "open(2400) BAD", "shown(0) NO",
                "open(5) -11", "open(0) 1", "cut(5) 1", "open(5) BAD", "open(0) -11", "cut(0) 5", "open(0) BAD", "shown(0) 1");
        run("opened again wherever a frame begins").calls("add(255) 1", "add(170) 2").frame(frame).frame(frame)
            .calls("open(2) 1", "shown(4) 8", "open(8) 1", "shown(4) 14", "open(0) -12", "shown(4) 14", "frames() -10",
                "alter(7, 0) " + sumAt7(frame), "open(2) -20", "open(8) 1");
    }

    private static long sumAt7(String frame) {
        return run("THE SUM does not count what is ahead of the FRAME").calls("add(1) 1", "add(1) 2").frame(frame)
            .call("at(7)");
    }

    public static void main(String[] args) {
        ends();
        heads();
        wasted();
        orders();
        partCounts();
        widths();
        values();
        greatRests();
        ends9And10();
        turnedSamples();
        middles();
        otherWays();
        places();
        WatchedRun.end();
    }
}
