import java.util.ArrayList;
import java.util.List;

/**
 * The edges that the document names for calls and their bounds, a run for each sentence: what SAMPLES,
 * CHANNELS, DEPTH and THE STREAM may be, REFUSALS, and the promises but for pack, row, price and open.
 */
public final class CallEdgesTest {
    // 16 bits, and two PLAIN rows of 7 + 30
    private static final int PREPARED_BYTES = 13;

    private static WatchedRun run(String sentence) {
        return new WatchedRun(sentence);
    }

    private static void channels() {
        run("SAMPLES lie in CHANNELS 0, 1").calls(
            "sample(-1, 0) BAD", "sample(2, 0) BAD", "sample(least, 0) BAD", "sample(most, 0) BAD",
            "sample(0, 0) 1", "sample(1, 0) 1",
            "price(-1, 1) BAD", "price(0, 1) 23", "price(1, 1) 23", "price(2, 1) BAD", "price(least, 1) BAD",
            "drop(-1) BAD", "drop(2) BAD", "drop(least) BAD", "drop(most) BAD",
            "drop(0) 1", "drop(1) 1");
    }

    private static void fourHundred() {
        for (int channel = 0; channel < 2; channel++) {
            run("400 in each at most").samples(channel, WatchedRun.repeated(400, 7, -9))
                .due("sample(" + channel + ", 0)", -4)
                .due("sample(" + channel + ", 0)", -4)
                .due("sample(" + (1 - channel) + ", 0)", 1)
                .due("drop(" + channel + ")", 400)
                .due("sample(" + channel + ", 0)", 1);
        }
        run("400 in each at most, of take() too")
            .frame("110001111 1 00 0000  000 0000 1  000 0000 0")
            .calls("open(0) 400", "take() 400", "sample(0, 0) FULL", "sample(1, 0) FULL", "drop(0) 400",
                "sample(1, 0) FULL", "sample(0, -1) 1", "drop(1) 400", "sample(1, 0) 1");
    }

    private static void lastCall() {
        WatchedRun r = run("An object is used for at most 512 calls after it has been made");
        r.calls("depth(1) 16", "sample(0, 0) 1");
        for (int i = 0; i < 509; i++) {
            r.due("pack()", 4 * i);
        }
        r.calls("frames() 509");
        r = run("An object is used for at most 512 calls: the last of them is a got that throws");
        for (int i = 1; i <= 511; i++) {
            r.due("add(" + i % 256 + ")", i);
        }
        r.calls("got(0, 0) throws");
    }

    private static void depths() {
        run("DEPTH is 1 .. 16 (at first 16)").calls(
            "depth(0) BAD", "depth(17) BAD", "depth(-1) BAD", "depth(-16) BAD", "depth(least) BAD", "depth(most) BAD",
            "depth(1) 16", "depth(0) BAD", "depth(17) BAD", "depth(16) 1", "depth(16) 16");
        WatchedRun r = run("DEPTH is 1 .. 16: each of them");
        int was = 16;
        for (int b = 1; b <= 16; b++) {
            r.due("depth(" + b + ")", was);
            was = b;
        }
    }

    private static void sampleBounds() {
        for (int b = 1; b <= 16; b++) {
            int half = 1 << (b - 1);
            run("a SAMPLE has DEPTH bits: -2^(DEPTH - 1) .. 2^(DEPTH - 1) - 1").due("depth(" + b + ")", 16)
                .due("sample(0, " + (-half - 1) + ")", -2)
                .due("sample(0, " + half + ")", -2)
                .due("sample(1, " + (-half - 1) + ")", -2)
                .due("sample(1, " + half + ")", -2)
                .calls("sample(0, least) BAD", "sample(0, most) BAD")
                .due("sample(0, " + -half + ")", 1)
                .due("sample(0, " + (half - 1) + ")", 2)
                .due("sample(1, " + (half - 1) + ")", 1)
                .due("sample(1, " + -half + ")", 2)
                .calls("pack() 0", "open(0) 2")
                .dueChannel(0, -half, half - 1)
                .dueChannel(1, half - 1, -half);
        }
    }

    /** Twelve frames of 200 bytes. */
    private static WatchedRun fullStream(String sentence) {
        WatchedRun r = run(sentence).samples(0, WatchedRun.noise(98));
        for (int i = 0; i < 12; i++) {
            r.due("pack()", 200 * i);
        }
        return r;
    }

    private static void streamBounds() {
        fullStream("THE STREAM is a row of up to 2400 bytes").calls(
            "size() 2400", "add(0) FULL", "pack() FULL", "size() 2400", "frames() 12",
            "at(2400) BAD", "alter(2400, 0) BAD", "open(2400) BAD", "cut(2401) BAD", "cut(2400) 0",
            "open(2200) 98", "shown(4) 2400", "open(2399) -11",
            "cut(2399) 1", "at(2399) BAD", "alter(2399, 0) BAD", "open(2399) BAD", "open(2200) -11",
            "add(77) 2400", "at(2399) 77", "alter(2399, 78) 77", "add(77) FULL", "at(2399) 78",
            "cut(0) 2400", "at(0) BAD", "size() 0", "pack() 0");
        WatchedRun r = run("THE STREAM is a row of up to 2400 bytes: 200 more have no room behind 2201")
            .calls("add(1) 1").samples(0, WatchedRun.noise(98));
        for (int i = 0; i < 11; i++) {
            r.due("pack()", 200 * i + 1);
        }
        r.calls("pack() FULL", "size() 2201", "told(4) 200", "cut(2200) 1", "pack() 2200", "size() 2400", "pack() FULL");
    }

    /** Two channels that are not as long, coefficients, a frame of others, and that frame opened. */
    private static WatchedRun prepared(String sentence) {
        return run(sentence).calls("depth(6) 16", "coefficients(2, 3, 1047545) 0")
            .samples(0, 5, 9, 12, 20, -32).samples(1, 1, -1, 31, 3, 2)
            .calls("pack() 0", "drop(0) 5", "drop(1) 5")
            .samples(0, 3, -7, 8, 8).samples(1, 4, 12, -20)
            .calls("open(0) 5", "add(255) " + (PREPARED_BYTES + 1), "add(128) " + (PREPARED_BYTES + 2));
    }

    /** What can be seen of an object; the last calls change it. */
    private static List<Long> seen(WatchedRun r, int samples, int bytes) {
        List<Long> all = new ArrayList<>();
        for (int what = 0; what <= 4; what++) {
            all.add(r.call("told(" + what + ")"));
        }
        for (int what = 0; what <= 33; what++) {
            all.add(r.call("row(0, " + what + ")"));
            all.add(r.call("row(1, " + what + ")"));
        }
        for (int what = 0; what <= 6; what++) {
            all.add(r.call("shown(" + what + ")"));
        }
        for (int i = 0; i < samples; i++) {
            all.add(r.call("got(0, " + i + ")"));
            all.add(r.call("got(1, " + i + ")"));
        }
        all.add(r.call("size()"));
        for (int i = 0; i < bytes; i++) {
            all.add(r.call("at(" + i + ")"));
        }
        for (int kind = 0; kind <= 7; kind++) {
            all.add(r.call("price(0, " + kind + ")"));
            all.add(r.call("price(1, " + kind + ")"));
        }
        all.add(r.call("frames()"));
        all.add(r.call("drop(1)"));
        all.add(r.call("cut(0)"));
        all.add(r.call("pack()"));
        all.add(r.call("open(0)"));
        for (int i = 0; i < samples; i++) {
            all.add(r.call("got(0, " + i + ")"));
        }
        all.add(r.call("coefficients(0, 0, 0)"));
        all.add(r.call("drop(0)"));
        all.add(r.call("depth(1)"));
        return all;
    }

    private static void refusalsChangeNothing() {
        String[] refused = {
            "depth(0) BAD", "depth(17) BAD", "depth(6) NO", "depth(16) NO",
            "sample(-1, 0) BAD", "sample(2, 0) BAD", "sample(0, 32) BAD", "sample(1, -33) BAD",
            "drop(-1) BAD", "drop(2) BAD",
            "coefficients(-1, 0, 1) BAD", "coefficients(5, 0, 1) BAD", "coefficients(1, -1, 1) BAD",
            "coefficients(4, 16, 1) BAD", "pack() NO",
            "told(-1) BAD", "told(5) BAD", "row(-1, 0) BAD", "row(2, 0) BAD", "row(0, 4) BAD", "row(1, 46) BAD",
            "price(0, -1) BAD", "price(1, 8) BAD", "price(2, 0) BAD", "price(1, 6) NO", "price(0, 0) NO",
            "at(-1) BAD", "at(15) BAD", "alter(15, 0) BAD", "alter(-1, 0) BAD", "alter(0, 256) BAD", "alter(0, -1) BAD",
            "add(-1) BAD", "add(256) BAD", "cut(-1) BAD", "cut(16) BAD",
            "open(-1) BAD", "open(15) BAD", "open(13) -12", "open(14) -11",
            "shown(-1) BAD", "shown(7) BAD", "got(0, 5) throws", "got(2, 0) throws", "got(-1, 0) throws",
            "frames() -11",
        };
        List<Long> want = seen(prepared("REFUSALS change nothing"), 5, 15);
        for (String row : refused) {
            WatchedRun r = prepared("REFUSALS change nothing: " + row).calls(row);
            r.dueAll(seen(r, 5, 15), want);
        }
    }

    private static void fullChangesNothing() {
        String frame = "110001111 1 00 0110  000 0000 0101011  000 0001 101011";
        String[] prepare = {"open(0) 400", "take() 400"};
        List<Long> want = seen(run("").frame(frame).calls(prepare), 3, 6);
        WatchedRun r = run("REFUSALS change nothing: a channel that is FULL").frame(frame).calls(prepare)
            .calls("sample(0, 1) FULL", "sample(1, 1) FULL");
        r.dueAll(seen(r, 3, 6), want);
        String sentence = "REFUSALS change nothing: a stream that is FULL";
        want = seen(fullStream(sentence).calls("sample(0, 5) 99"), 3, 20);
        r = fullStream(sentence).calls("sample(0, 5) 99", "pack() FULL", "add(9) FULL");
        r.dueAll(seen(r, 3, 20), want);
    }

    private static void refusalOrder() {
        String sentence = "of several the first told: BAD, NO, FULL: ";
        run(sentence + "BAD ahead of NO").calls(
            "sample(0, 0) 1", "depth(0) BAD", "depth(17) BAD", "depth(1) NO",
            "told(-1) BAD", "told(5) BAD", "told(4) NO",
            "row(-1, 0) BAD", "row(2, 0) BAD", "row(0, -1) BAD", "row(0, 4) BAD", "row(1, 0) NO", "row(0, 0) NO",
            "price(1, 7) BAD", "price(1, 0) BAD", "price(1, 6) BAD", "price(0, 8) BAD", "price(2, 7) BAD",
            "price(0, 7) NO", "price(0, 6) NO",
            "shown(-1) BAD", "shown(7) BAD", "shown(6) NO");
        run(sentence + "BAD ahead of FULL").frame("110001111 0 00 0110  000 0000 0101011")
            .calls("open(0) 400", "take() 400", "sample(0, 64) BAD", "sample(0, -65) BAD", "sample(2, 0) BAD",
                "sample(0, 63) FULL");
        fullStream(sentence + "BAD, and NO, ahead of FULL").calls("add(256) BAD", "add(-1) BAD", "add(255) FULL",
            "sample(1, 0) 1", "pack() NO", "drop(0) 98", "pack() NO", "drop(1) 1", "pack() NO");
    }

    private static void newObjects() {
        run("No SAMPLES, COEFFICIENTS; DEPTH 16; THE STREAM is empty").calls(
            "size() 0", "at(0) BAD", "alter(0, 0) BAD", "cut(0) 0", "cut(1) BAD", "open(0) BAD", "frames() 0",
            "price(0, 0) BAD", "price(1, 0) BAD", "pack() NO", "told(0) NO", "row(0, 0) NO", "shown(0) NO",
            "got(0, 0) throws", "take() NO", "coefficients(0, 0, 0) 0", "drop(0) 0", "drop(1) 0", "depth(16) 16");
        run("No COEFFICIENTS").calls("sample(0, 32767) 1", "price(0, 7) NO", "coefficients(4, 0, 0) 0");
        WatchedRun first = run("A new object: another one's calls do not count")
            .calls("depth(3) 16", "coefficients(2, 0, 5) 0", "sample(0, 1) 1", "pack() 0", "open(0) 1");
        run("A new object: another one's calls do not count").calls(
            "size() 0", "told(0) NO", "shown(0) NO", "got(0, 0) throws", "drop(0) 0", "coefficients(0, 0, 0) 0",
            "depth(9) 16");
        first.calls("size() 5", "shown(3) 3", "got(0, 0) 1", "drop(0) 1", "coefficients(0, 0, 0) 2", "depth(9) 3");
    }

    private static void depth() {
        run("DEPTH: what it was. NO: there are SAMPLES").calls(
            "depth(7) 16", "depth(7) 7", "sample(1, 63) 1", "depth(8) NO", "depth(7) NO", "sample(1, 64) BAD",
            "drop(1) 1", "depth(8) 7", "sample(0, 64) 1", "depth(7) NO", "drop(1) 0", "depth(7) NO",
            "drop(0) 1", "depth(7) 8", "sample(0, 64) BAD");
    }

    private static void drop() {
        run("A channel is empty: how many SAMPLES it had").calls(
            "drop(0) 0", "depth(4) 16", "sample(0, 7) 1", "sample(0, 6) 2", "sample(1, 5) 1",
            "drop(0) 2", "drop(0) 0", "price(0, 1) BAD", "price(1, 1) 11", "sample(0, 1) 1", "sample(0, 8) BAD",
            "drop(1) 1", "price(1, 1) BAD", "drop(0) 1", "depth(1) 4");
    }

    private static void coefficients() {
        run("order 0 (none; the others do not count) .. 4").calls(
            "coefficients(-1, 0, 0) BAD", "coefficients(5, 0, 0) BAD", "coefficients(least, 0, 0) BAD",
            "coefficients(most, 0, 0) BAD", "coefficients(1, 0, 0) 0", "coefficients(2, 0, 0) 1",
            "coefficients(3, 0, 0) 2", "coefficients(4, 0, 0) 3", "coefficients(5, 0, 0) BAD",
            "coefficients(0, 0, 0) 4", "coefficients(0, 16, 1) 0", "coefficients(4, 0, 0) 0",
            "coefficients(0, -1, 1) 4", "coefficients(4, 0, 0) 0", "coefficients(0, least, -1) 4",
            "coefficients(0, most, -1) 0");
        run("order 0 (none): KIND 7 may not be").calls("sample(0, 1) 1", "coefficients(1, 0, 0) 0", "price(0, 7) 46",
            "coefficients(0, 3, 1) 1", "price(0, 7) NO");
        WatchedRun r = run("SHIFT 0 .. 15");
        for (int order = 1; order <= 4; order++) {
            for (String bad : new String[] {"-1", "16", "least", "most"}) {
                r.due("coefficients(" + order + ", " + bad + ", 0)", -2);
            }
        }
        r.calls("coefficients(1, 0, 0) 0", "coefficients(2, 15, 0) 1", "coefficients(2, 16, 0) BAD",
            "coefficients(0, 0, 0) 2");
    }

    /** Coefficients are seen in the frame of values that follow them. */
    private static void coefficientBits() {
        long[] above = {0, -1, 1, Long.MIN_VALUE, 0x123456789ABL};
        for (long bitsAbove : above) {
            run("c: of each the 10 lowest bits (bits above do not count): c1 is -512 by 2^9")
                .due("coefficients(1, 9, " + (512 | bitsAbove << 10) + ")", 0)
                .samples(0, WatchedRun.repeated(12, 12345, -12345)).calls("pack() 0")
                .dueFrame(0, "000001011 0 00 1111  111 0000 00 1001 1000000000 0011000000111001 000 1111 00000");
        }
        long[] c = {1, -2, 1, -1};
        int[] v = follow(c, 0, 1001, -2003, 3005, -4007);
        long all = 0;
        StringBuilder told = new StringBuilder();
        for (int j = 0; j < 4; j++) {
            all |= (c[j] & 1023) << (10 * j);
            told.append(WatchedRun.bits(c[j], 10));
        }
        for (long bitsAbove : above) {
            run("c1 the lowest of all, c2 the next ten, and so on (bits above do not count)")
                .due("coefficients(4, 0, " + (all | bitsAbove << 40) + ")", 0)
                .samples(0, v).calls("pack() 0", "row(0, 0) 7")
                .dueFrame(0, "000001011 0 00 1111  111 0000 11 0000" + told
                    + WatchedRun.bits(v[0], 16) + WatchedRun.bits(v[1], 16) + WatchedRun.bits(v[2], 16)
                    + WatchedRun.bits(v[3], 16) + " 000 1111 00000")
                .calls("open(0) 12").dueChannel(0, v);
        }
    }

    /** Twelve values, all but the first ones as the coefficients foretell them. */
    private static int[] follow(long[] c, int shift, int... first) {
        int[] v = new int[12];
        System.arraycopy(first, 0, v, 0, first.length);
        for (int i = first.length; i < v.length; i++) {
            long sum = 0;
            for (int j = 0; j < c.length; j++) {
                sum += c[j] * v[i - 1 - j];
            }
            v[i] = (int) Math.floorDiv(sum, 1L << shift);
        }
        return v;
    }

    private static void told() {
        run("Of the latest pack(): BAD; NO: there was none").samples(0, 9, 9, 9).calls(
            "told(0) NO", "told(1) NO", "told(2) NO", "told(3) NO", "told(4) NO", "told(5) BAD", "told(-1) BAD",
            "told(least) BAD", "told(most) BAD", "sample(1, 0) 1", "pack() NO", "told(0) NO", "drop(1) 1",
            "pack() 0", "told(0) 3", "told(1) 1", "told(2) 0", "told(3) 39", "told(4) 6", "told(5) BAD",
            "told(-1) BAD", "told(least) BAD", "told(most) BAD",
            // a pack() that is refused is none
            "sample(1, 0) 1", "pack() NO", "told(0) 3", "told(1) 1", "drop(1) 1",
            // neither samples nor the stream matter to it
            "drop(0) 3", "cut(0) 6", "told(0) 3", "told(4) 6", "sample(0, -8) 1", "sample(1, -8) 1", "pack() 0",
            // channel 0 has w 3, and a REST of -1 in 2 bits; the side a REST of 0
            "told(0) 1", "told(1) 2", "told(2) 1", "told(3) 47", "told(4) 7");
        run("3 bits up to the last ROW's end, 4 bytes with THE SUM: at a whole byte").calls(
            "depth(9) 16", "sample(0, 1) 1", "pack() 0", "told(3) 32", "told(4) 5", "drop(0) 1",
            "depth(10) 9", "sample(0, 1) 1", "pack() 5", "told(3) 33", "told(4) 6", "drop(0) 1",
            "depth(8) 10", "sample(0, 1) 1", "pack() 11", "told(3) 31", "told(4) 5", "size() 16");
    }

    private static void streamCalls() {
        run("How many bytes THE STREAM has").calls("size() 0", "add(0) 1", "size() 1", "add(0) 2", "size() 2",
            "cut(1) 1", "size() 1", "cut(0) 1", "size() 0");
        run("Byte i of THE STREAM. BAD").calls("at(0) BAD", "at(-1) BAD", "add(255) 1", "at(0) 255", "at(1) BAD",
            "at(-1) BAD", "at(least) BAD", "at(most) BAD", "add(128) 2", "at(1) 128", "at(2) BAD", "cut(1) 1", "at(1) BAD",
            "at(0) 255");
        run("Byte i of THE STREAM becomes b: what it was. BAD").calls("alter(0, 0) BAD", "add(255) 1",
            "alter(-1, 0) BAD", "alter(1, 0) BAD", "alter(least, 0) BAD", "alter(most, 0) BAD",
            "alter(0, -1) BAD", "alter(0, 256) BAD", "alter(0, least) BAD", "alter(0, most) BAD",
            "at(0) 255", "alter(0, 0) 255", "alter(0, 255) 0", "alter(0, 255) 255", "at(0) 255",
            "cut(0) 1", "alter(0, 1) BAD", "add(3) 1", "at(0) 3");
        run("A byte more: how many THE STREAM has. BAD").calls("add(-1) BAD", "add(256) BAD", "add(least) BAD",
            "add(most) BAD", "size() 0", "add(0) 1", "add(255) 2", "at(0) 0", "at(1) 255");
        run("THE STREAM keeps its first n bytes: how many go. BAD").calls("cut(0) 0", "cut(1) BAD", "cut(-1) BAD",
            "add(1) 1", "add(2) 2", "add(3) 3", "cut(4) BAD", "cut(-1) BAD", "cut(least) BAD", "cut(most) BAD",
            "cut(2400) BAD", "cut(3) 0", "size() 3", "cut(2) 1", "at(0) 1", "at(1) 2", "at(2) BAD", "cut(3) BAD",
            "cut(0) 2", "size() 0", "add(9) 1", "at(0) 9");
    }

    private static void shown() {
        run("Of the latest open() without a FAULT: BAD; NO: there was none").calls(
            "shown(0) NO", "shown(6) NO", "shown(7) BAD", "shown(-1) BAD", "shown(least) BAD", "shown(most) BAD")
            .frame("000000010 0 00 0011  001 0000 0001 0010 0011")
            .calls("shown(0) NO", "open(1) -13", "shown(0) NO", "open(9) BAD", "shown(0) NO", "frames() 1", "shown(0) NO",
                "open(0) 3", "shown(0) 3", "shown(1) 1", "shown(2) 0", "shown(3) 4", "shown(4) 6", "shown(5) 1",
                "shown(6) NONE", "shown(7) BAD", "shown(-1) BAD", "shown(least) BAD", "shown(most) BAD",
                "cut(5) 1", "open(0) -11", "shown(0) 3", "cut(0) 5", "shown(4) 6", "got(0, 2) 3");
        run("4 the place behind it, 5, 6 KIND of both ROWS").calls("add(1) 1")
            .frame("000000000 1 01 1111  000 0000 0000000000000101  010 0001 000 0000 1110")
            .calls("open(1) 1", "shown(0) 1", "shown(1) 2", "shown(2) 1", "shown(3) 16", "shown(4) 10", "shown(5) 0",
                "shown(6) 2")
            .dueChannel(0, 5).dueChannel(1, 9)
            // one channel again: there is no second kind
            .frame("000000000 0 00 0000  001 0000 1")
            .calls("open(10) 1", "shown(6) NONE", "shown(4) 14", "got(1, 0) throws");
    }

    private static void got() {
        run("ArrayIndexOutOfBoundsException: there is none such, or no such channel")
            .calls("got(0, 0) throws", "got(-1, -1) throws")
            .frame("000000001 0 00 0011  001 0000 0111 1000").frame("000000000 1 00 0011  000 0000 0001  000 0000 1111")
            .calls("got(0, 0) throws", "open(0) 2", "got(0, 0) 7", "got(0, 1) -8", "got(0, 2) throws",
                "got(0, -1) throws", "got(0, 399) throws", "got(0, 400) throws", "got(0, least) throws", "got(0, most) throws",
                "got(1, 0) throws", "got(-1, 0) throws", "got(2, 0) throws", "got(least, 0) throws", "got(most, 0) throws",
                "open(5) 1", "got(0, 0) 1", "got(1, 0) -1", "got(0, 1) throws", "got(1, 1) throws", "got(2, 0) throws",
                "got(-1, 0) throws", "add(0) 12", "open(11) -11", "got(1, 0) -1", "open(0) 2", "got(1, 0) throws",
                "got(0, 1) -8");
        run("SAMPLE i of a channel: the last of 400")
            .frame("110001111 1 00 0000  000 0000 1  000 0000 0")
            .calls("open(0) 400", "got(0, 399) -1", "got(1, 399) 0", "got(0, 400) throws", "got(1, 400) throws",
                "got(1, -1) throws", "got(2, 0) throws");
    }

    private static void take() {
        run("What it showed becomes the SAMPLES. NO: there was none").calls("take() NO", "sample(0, 1) 1", "take() NO",
            "drop(0) 1").frame("000000001 0 00 0011  001 0000 0111 1000")
            .calls("take() NO", "open(1) -13", "take() NO", "frames() 1", "take() NO", "drop(0) 0",
                "sample(1, 3000) 1", "open(0) 2", "drop(0) 0", "take() 2",
                // one channel was shown: the other one is empty
                "drop(1) 0", "sample(0, 7) 3", "sample(0, 8) BAD", "price(0, 1) 19", "drop(0) 3", "depth(16) 4",
                "take() 2", "depth(16) NO", "pack() 5", "drop(0) 2", "depth(4) 4",
                "cut(0) 10", "take() 2", "take() 2", "drop(0) 2", "shown(0) 2");
        run("What it showed becomes the SAMPLES: of both channels, in their order").samples(0, 9, 8, 7, 6).samples(1, 1, 2, 3)
            .frame("000000010 1 00 0011  001 0000 0111 1000 0001  001 0000 0010 1111 1101")
            .calls("open(0) 3", "take() 3", "cut(0) 8", "pack() 0", "drop(0) 3", "drop(1) 3", "open(0) 3")
            .dueChannel(0, 7, -8, 1).dueChannel(1, 2, -1, -3);
        run("its DEPTH that at hand: also with SAMPLES of a greater one")
            .frame("000000000 1 00 0000  000 0000 1  000 0000 0")
            .samples(0, 30000, 30001).samples(1, -30000)
            .calls("open(0) 1", "take() 1", "sample(0, 1) BAD", "sample(0, -1) 2", "sample(1, 0) 2",
                "drop(0) 2", "drop(1) 2", "depth(16) 1");
    }

    private static void frames() {
        run("FRAMES of THE STREAM: how many, if they reach its end").calls("frames() 0", "depth(1) 16", "sample(0, 0) 1",
            "pack() 0", "frames() 1", "pack() 4", "frames() 2", "add(0) 9", "frames() -12", "cut(8) 1", "frames() 2",
            "cut(7) 1", "frames() -11", "cut(4) 3", "frames() 1", "cut(3) 1", "frames() -10", "cut(1) 2", "frames() -10",
            "cut(0) 1", "frames() 0");
        run("-10 less how many are good ahead of the first one that is not").calls("depth(1) 16", "sample(0, -1) 1",
            "pack() 0", "pack() 4", "pack() 8", "frames() 3", "alter(11, 6) 7", "frames() -12", "alter(7, 6) 7",
            "frames() -11", "alter(3, 6) 7", "frames() -10", "alter(11, 7) 6", "alter(7, 7) 6", "frames() -10",
            "alter(3, 7) 6", "frames() 3");
        run("(What open() showed stays.)").calls("frames() 0", "shown(0) NO", "sample(0, 5) 1", "pack() 0", "drop(0) 1",
            "sample(0, 6) 1", "sample(0, 6) 2", "sample(1, 7) 1", "sample(1, 7) 2", "pack() 6", "frames() 2", "shown(0) NO",
            "got(0, 0) throws", "open(0) 1", "frames() 2", "shown(0) 1", "shown(1) 1", "shown(4) 6", "shown(6) NONE",
            "got(0, 0) 5", "got(0, 1) throws", "got(1, 0) throws", "add(0) 15", "frames() -12", "shown(0) 1", "shown(4) 6",
            "got(0, 0) 5", "take() 1", "sample(0, 0) 2");
    }

    public static void main(String[] args) {
        channels();
        fourHundred();
        lastCall();
        depths();
        sampleBounds();
        streamBounds();
        refusalsChangeNothing();
        fullChangesNothing();
        refusalOrder();
        newObjects();
        depth();
        drop();
        coefficients();
        coefficientBits();
        told();
        streamCalls();
        shown();
        got();
        take();
        frames();
        WatchedRun.end();
    }
}
