import java.util.ArrayList;
import java.util.List;

/**
 * A new object and a run of calls on it for one sentence of the document. A call stands as the document
 * writes it, with the answer that is due behind it: "depth(17) BAD", "got(0, 3) throws". Nothing is
 * promised behind the 512th call, so a run that goes further is wrong itself.
 */
public final class WatchedRun {
    public static final long THROWS = Long.MAX_VALUE;
    private static final long BROKEN = Long.MIN_VALUE;
    private static final int MOST_CALLS = 512;

    private static int wrong = 0;
    private static int runs = 0;
    private static long allCalls = 0;

    private final String sentence;
    private final SamplePacks x = new SamplePacks();
    private int made = 0;

    public WatchedRun(String sentence) {
        this.sentence = sentence;
        runs++;
    }

    /** Ends the test, with exit code 1 if an answer was not the one due. */
    public static void end() {
        System.out.println(runs + " runs, " + allCalls + " calls, " + wrong + " not as due");
        if (wrong != 0) {
            System.exit(1);
        }
    }

    public WatchedRun calls(String... rows) {
        for (String row : rows) {
            int behind = row.indexOf(')') + 1;
            due(row.substring(0, behind), word(row.substring(behind).trim()));
        }
        return this;
    }

    public WatchedRun due(String text, long want) {
        long got = call(text);
        if (got != want) {
            tell(text + " answered " + got + ", due is " + want);
        }
        return this;
    }

    /** Answers of many calls are those of another object. */
    public void dueAll(List<Long> got, List<Long> want) {
        for (int i = 0; i < want.size(); i++) {
            if (!got.get(i).equals(want.get(i))) {
                tell("of its answers number " + i + " is " + got.get(i) + ", due is " + want.get(i));
            }
        }
    }

    public long call(String text) {
        made++;
        allCalls++;
        if (made == MOST_CALLS + 1) {
            tell("the test goes beyond " + MOST_CALLS + " calls");
        }
        int open = text.indexOf('(');
        String name = text.substring(0, open);
        String inside = text.substring(open + 1, text.indexOf(')')).trim();
        String[] words = inside.isEmpty() ? new String[0] : inside.split(",");
        long[] a = new long[words.length];
        for (int i = 0; i < a.length; i++) {
            a[i] = word(words[i].trim());
        }
        try {
            return answer(name, a);
        } catch (RuntimeException e) {
            if (name.equals("got") && e.getClass() == ArrayIndexOutOfBoundsException.class) {
                return THROWS;
            }
            tell(text + " threw " + e);
            return BROKEN;
        }
    }

    private long answer(String name, long[] a) {
        switch (name + a.length) {
            case "depth1": return x.depth((int) a[0]);
            case "sample2": return x.sample((int) a[0], (int) a[1]);
            case "drop1": return x.drop((int) a[0]);
            case "coefficients3": return x.coefficients((int) a[0], (int) a[1], a[2]);
            case "pack0": return x.pack();
            case "told1": return x.told((int) a[0]);
            case "row2": return x.row((int) a[0], (int) a[1]);
            case "price2": return x.price((int) a[0], (int) a[1]);
            case "size0": return x.size();
            case "at1": return x.at((int) a[0]);
            case "alter2": return x.alter((int) a[0], (int) a[1]);
            case "add1": return x.add((int) a[0]);
            case "cut1": return x.cut((int) a[0]);
            case "open1": return x.open((int) a[0]);
            case "shown1": return x.shown((int) a[0]);
            case "got2": return x.got((int) a[0], (int) a[1]);
            case "take0": return x.take();
            case "frames0": return x.frames();
            default: throw new IllegalStateException("no call " + name);
        }
    }

    private static long word(String text) {
        switch (text) {
            case "NONE": return -1;
            case "BAD": return -2;
            case "NO": return -3;
            case "FULL": return -4;
            case "throws": return THROWS;
            case "least": return Integer.MIN_VALUE;
            case "most": return Integer.MAX_VALUE;
            default: return Long.parseLong(text);
        }
    }

    private void tell(String text) {
        wrong++;
        System.out.println("\"" + sentence + "\": call " + made + ", " + text);
    }

    /** The first samples of a channel. */
    public WatchedRun samples(int channel, int... v) {
        for (int i = 0; i < v.length; i++) {
            due("sample(" + channel + ", " + v[i] + ")", i + 1);
        }
        return this;
    }

    /** Bytes more, told as bits; blanks do not count, and 0s fill up the last byte. */
    public WatchedRun bits(String spaced) {
        long size = call("size()");
        for (int b : bytesOf(spaced)) {
            size++;
            due("add(" + b + ")", size);
        }
        return this;
    }

    /** A frame more, whose sum is right. */
    public WatchedRun frame(String spaced) {
        bits(spaced);
        return due("add(" + sumOf(bytesOf(spaced)) + ")", call("size()") + 1);
    }

    /** The latest pack() wrote these bits at a place, 0s up to a byte and the sum, and nothing behind them. */
    public WatchedRun dueFrame(int place, String spaced) {
        List<Integer> bytes = bytesOf(spaced);
        due("told(3)", spaced.replace(" ", "").length());
        due("told(4)", bytes.size() + 1);
        for (int i = 0; i < bytes.size(); i++) {
            due("at(" + (place + i) + ")", bytes.get(i));
        }
        due("at(" + (place + bytes.size()) + ")", sumOf(bytes));
        return due("size()", place + bytes.size() + 1);
    }

    /** What was shown has these samples in a channel, and no more. */
    public WatchedRun dueChannel(int channel, int... v) {
        for (int i = 0; i < v.length; i++) {
            due("got(" + channel + ", " + i + ")", v[i]);
        }
        return due("got(" + channel + ", " + v.length + ")", THROWS);
    }

    public static String bits(long v, int count) {
        StringBuilder s = new StringBuilder();
        for (int i = count - 1; i >= 0; i--) {
            s.append(v >> i & 1);
        }
        return s.toString();
    }

    private static List<Integer> bytesOf(String spaced) {
        StringBuilder s = new StringBuilder(spaced.replace(" ", ""));
        while (s.length() % 8 != 0) {
            s.append('0');
        }
        List<Integer> bytes = new ArrayList<>();
        for (int i = 0; i < s.length(); i += 8) {
            bytes.add(Integer.parseInt(s.substring(i, i + 8), 2));
        }
        return bytes;
    }

    /** The sum as a division of the bits by 263 (1 0000 0111) with no carry, so not as the program does it. */
    private static int sumOf(List<Integer> bytes) {
        int left = 0;
        for (int i = 0; i < 8 * bytes.size() + 8; i++) {
            int bit = i / 8 < bytes.size() ? bytes.get(i / 8) >> (7 - i % 8) & 1 : 0;
            left = left << 1 | bit;
            if ((left & 256) != 0) {
                left ^= 263;
            }
        }
        return left;
    }

    public static int[] row(int... v) {
        return v;
    }

    public static int[] repeated(int n, int... v) {
        int[] all = new int[n];
        for (int i = 0; i < n; i++) {
            all[i] = v[i % v.length];
        }
        return all;
    }

    /** Values of 16 bits that no kind but PLAIN is good for. */
    public static int[] noise(int n) {
        int[] all = new int[n];
        int s = 1;
        for (int i = 0; i < n; i++) {
            s = s * 1103515245 + 12345;
            all[i] = s >> 16;
        }
        return all;
    }
}
