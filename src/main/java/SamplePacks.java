import java.util.Arrays;

/** Samples of one or two channels, packed without loss into frames of a stream of bytes. */
public final class SamplePacks {
    public static final int NONE = -1, BAD = -2, NO = -3, FULL = -4;

    private static final int CHANNELS = 2;
    private static final int MOST_SAMPLES = 400;
    private static final int MOST_BYTES = 2400;
    private static final int MOST_DEPTH = 16;
    private static final int MOST_WASTED = 15;

    private static final int LIKE = 0;
    private static final int PLAIN = 1;
    private static final int FIXED = 2;
    private static final int FORETOLD = 7;
    private static final int KINDS = 8;

    private static final int MOST_ORDER = 4;
    private static final int MOST_SHIFT = 15;
    private static final int COEFFICIENT_BITS = 10;
    private static final int MOST_P = 4;
    private static final int MOST_PARTS = 16;
    private static final int K_OF_WIDTHS = 15;
    private static final int MOST_REST_BITS = 24;

    private static final int N_BITS = 9;
    private static final int CHANNELS_BITS = 1;
    private static final int TURN_BITS = 2;
    private static final int DEPTH_BITS = 4;
    private static final int HEAD_BITS = 16;
    private static final int KIND_BITS = 3;
    private static final int WASTED_BITS = 4;
    private static final int ROW_HEAD_BITS = 7;
    private static final int ORDER_BITS = 2;
    private static final int SHIFT_BITS = 4;
    private static final int P_BITS = 3;
    private static final int K_BITS = 4;
    private static final int X_BITS = 5;
    private static final int SUM_BITS = 8;

    private static final int TURNS = 4;
    private static final int SIDE = 2;
    private static final int MIDDLE = 3;
    /** What each TURN has as its rows: channel 0, channel 1, SIDE or MIDDLE. */
    private static final int[] FIRST_ROW = {0, 0, 2, 3};
    private static final int[] SECOND_ROW = {1, 2, 1, 2};
    /** Four coefficients for each order of the FIXED kinds. */
    private static final int[] FIXED_COEFFICIENTS = {
        0, 0, 0, 0,
        1, 0, 0, 0,
        2, -1, 0, 0,
        3, -3, 1, 0,
        4, -6, 4, -1,
    };

    private static final int FAULT_END = 1;
    private static final int FAULT_N = 2;
    private static final int FAULT_TURN = 3;
    private static final int FAULT_WASTED = 4;
    private static final int FAULT_ORDER = 5;
    private static final int FAULT_P = 6;
    private static final int FAULT_X = 7;
    private static final int FAULT_VALUE = 8;
    private static final int FAULT_PADDING = 9;
    private static final int FAULT_SUM = 10;
    private static final int FAULT_SAMPLE = 11;
    private static final int FAULT_BASE = -10;

    private static final int FIRST_K = 10;
    private static final int FIRST_X = 30;

    private final int[][] samples = new int[CHANNELS][MOST_SAMPLES];
    private final int[] counts = new int[CHANNELS];
    private int sampleBits = MOST_DEPTH;
    private final Foretelling own = new Foretelling();
    private final BitStream stream = new BitStream();
    private final FramePacker packer = new FramePacker(samples, own, stream);
    private final PackedFrame packed = new PackedFrame();
    private final FrameReader reader = new FrameReader(stream);
    // these two change places when a frame opens, so that a fault leaves what was shown alone
    private OpenedFrame opened = new OpenedFrame();
    private OpenedFrame spare = new OpenedFrame();

    public SamplePacks() {
    }

    public int depth(int b) {
        if (b < 1 || b > MOST_DEPTH) {
            return BAD;
        }
        if (counts[0] != 0 || counts[1] != 0) {
            return NO;
        }
        int before = sampleBits;
        sampleBits = b;
        return before;
    }

    public int sample(int channel, int v) {
        if (!isChannel(channel) || !fits(v, sampleBits)) {
            return BAD;
        }
        int count = counts[channel];
        if (count >= MOST_SAMPLES) {
            return FULL;
        }
        samples[channel][count] = v;
        counts[channel] = count + 1;
        return count + 1;
    }

    public int drop(int channel) {
        if (!isChannel(channel)) {
            return BAD;
        }
        int before = counts[channel];
        counts[channel] = 0;
        return before;
    }

    public int coefficients(int order, int shift, long c) {
        if (order < 0 || order > MOST_ORDER) {
            return BAD;
        }
        if (order != 0 && (shift < 0 || shift > MOST_SHIFT)) {
            return BAD;
        }
        int before = own.order;
        own.becomeTold(order, shift, c);
        return before;
    }

    public int pack() {
        int n = counts[0];
        if (n == 0 || (counts[1] != 0 && counts[1] != n)) {
            return NO;
        }
        packer.chooseFrame(n, counts[1] == 0 ? 1 : 2, sampleBits);
        int place = stream.length;
        if (place + bytesOf(packer.bits) > MOST_BYTES) {
            return FULL;
        }
        packer.writeFrame();
        packed.keep(packer);
        return place;
    }

    public int told(int what) {
        if (what < 0 || what > 4) {
            return BAD;
        }
        if (packed.n == 0) {
            return NO;
        }
        switch (what) {
            case 0: return packed.n;
            case 1: return packed.channels;
            case 2: return packed.turn;
            case 3: return packed.bits;
            default: return bytesOf(packed.bits);
        }
    }

    public int row(int r, int what) {
        boolean ofPart = isPartOf(FIRST_K, what) || isPartOf(FIRST_X, what);
        if (!isChannel(r) || !(ofPart || (what >= 0 && what <= 3))) {
            return BAD;
        }
        if (packed.n == 0) {
            return NO;
        }
        if (r >= packed.channels) {
            return BAD;
        }
        RowForm form = r == 0 ? packed.first : packed.second;
        if (ofPart) {
            return partTold(form, what);
        }
        switch (what) {
            case 0: return form.kind;
            case 1: return form.wasted;
            case 2: return form.bits;
            default: return form.p;
        }
    }

    public int price(int channel, int kind) {
        if (!isChannel(channel) || kind < 0 || kind >= KINDS || counts[channel] == 0) {
            return BAD;
        }
        packer.chooser.values.strip(samples[channel], counts[channel], sampleBits);
        int bits = packer.chooser.weigh(kind);
        return bits == NONE ? NO : bits;
    }

    public int size() {
        return stream.length;
    }

    public int at(int i) {
        return stream.has(i) ? stream.bytes[i] : BAD;
    }

    public int alter(int i, int b) {
        if (!stream.has(i) || !isByte(b)) {
            return BAD;
        }
        int before = stream.bytes[i];
        stream.bytes[i] = b;
        return before;
    }

    public int add(int b) {
        if (!isByte(b)) {
            return BAD;
        }
        if (stream.length >= MOST_BYTES) {
            return FULL;
        }
        stream.bytes[stream.length] = b;
        stream.length++;
        return stream.length;
    }

    public int cut(int n) {
        if (n < 0 || n > stream.length) {
            return BAD;
        }
        int gone = stream.length - n;
        stream.length = n;
        return gone;
    }

    public int open(int at) {
        if (!stream.has(at)) {
            return BAD;
        }
        int fault = reader.readFrame(at, spare);
        if (fault != 0) {
            return FAULT_BASE - fault;
        }
        OpenedFrame before = opened;
        opened = spare;
        spare = before;
        return opened.n;
    }

    public int shown(int what) {
        if (what < 0 || what > 6) {
            return BAD;
        }
        if (opened.n == 0) {
            return NO;
        }
        switch (what) {
            case 0: return opened.n;
            case 1: return opened.channels;
            case 2: return opened.turn;
            case 3: return opened.sampleBits;
            case 4: return opened.behind;
            case 5: return opened.kinds[0];
            default: return opened.kinds[1];
        }
    }

    public int got(int channel, int i) throws ArrayIndexOutOfBoundsException {
        if (channel < 0 || channel >= opened.channels || i < 0 || i >= opened.n) {
            throw new ArrayIndexOutOfBoundsException("no such sample was shown");
        }
        return opened.rows[channel][i];
    }

    public int take() {
        int n = opened.n;
        if (n == 0) {
            return NO;
        }
        for (int channel = 0; channel < CHANNELS; channel++) {
            counts[channel] = channel < opened.channels ? n : 0;
            System.arraycopy(opened.rows[channel], 0, samples[channel], 0, counts[channel]);
        }
        sampleBits = opened.sampleBits;
        return n;
    }

    public int frames() {
        int place = 0;
        int good = 0;
        while (good < MOST_BYTES && place < stream.length) {
            if (reader.readFrame(place, spare) != 0) {
                return FAULT_BASE - good;
            }
            place = spare.behind;
            good++;
        }
        return good;
    }

    private static boolean isChannel(int channel) {
        return channel >= 0 && channel < CHANNELS;
    }

    private static boolean isByte(int b) {
        return b >= 0 && b <= 255;
    }

    private static boolean isPartOf(int first, int what) {
        return what >= first && what < first + MOST_PARTS;
    }

    private static int partTold(RowForm form, int what) {
        boolean width = what >= FIRST_X;
        int part = what - (width ? FIRST_X : FIRST_K);
        if (part >= form.countParts()) {
            return BAD;
        }
        return width ? form.x[part] : form.k[part];
    }

    /** Whether v has room in so many bits (1 to 31) of two's complement. */
    private static boolean fits(int v, int bits) {
        int half = 1 << (bits - 1);
        return v >= -half && v < half;
    }

    /** How many bytes a frame has whose rows end at so many bits. */
    private static int bytesOf(int bits) {
        return (bits + 7) / 8 + 1;
    }

    /** The bits of a row's values (of a channel, SIDE or MIDDLE) before any are wasted. */
    private static int bitsOfRow(int which, int sampleBits) {
        return which == SIDE ? sampleBits + 1 : sampleBits;
    }

    private static boolean mayBeP(int p, int n, int order) {
        return p <= MOST_P && (n & ((1 << p) - 1)) == 0 && n >> p >= order;
    }

    /** The lowest bits (1 or more) of a number, read as two's complement. */
    private static int signed(int number, int bits) {
        return number << (32 - bits) >> (32 - bits);
    }

    private static int unfold(int u) {
        return (u & 1) == 0 ? u >> 1 : -(u >> 1) - 1;
    }

    /** THE STREAM, and a place in it where bits are read or written. */
    private static final class BitStream {
        final int[] bytes = new int[MOST_BYTES];
        int length;
        int fault;
        private int position;

        boolean has(int i) {
            return i >= 0 && i < length;
        }

        void begin(int place) {
            position = 8 * place;
            fault = 0;
        }

        int placeNow() {
            return position >> 3;
        }

        int bitsToByte() {
            return -position & 7;
        }

        /** THE SUM of the bytes from one place up to another. */
        int sumOf(int from, int to) {
            int s = 0;
            for (int i = from; i < to && i < MOST_BYTES; i++) {
                s ^= bytes[i];
                for (int turn = 0; turn < 8; turn++) {
                    s *= 2;
                    if (s > 255) {
                        s ^= 263;
                    }
                }
            }
            return s;
        }

        void write(int number, int bits) {
            for (int i = bits - 1; i >= 0; i--) {
                writeBit((number >> i) & 1);
            }
        }

        private void writeBit(int bit) {
            int place = position >> 3;
            if (place < MOST_BYTES) {
                int mask = 128 >> (position & 7);
                bytes[place] = bit == 0 ? bytes[place] & ~mask : bytes[place] | mask;
                position++;
            }
        }

        void writeFolded(int u, int k) {
            for (int ones = 0; ones < u >> k; ones++) {
                writeBit(1);
            }
            writeBit(0);
            write(u, k);
        }

        /** Keeps a fault, if there is one and none came first; whether there is any now. */
        boolean faultIf(boolean wrong, int which) {
            if (wrong && fault == 0) {
                fault = which;
            }
            return fault != 0;
        }

        /** A number; 0 behind a fault. */
        int read(int bits) {
            if (faultIf(position + bits > 8 * length, FAULT_END)) {
                return 0;
            }
            int number = 0;
            for (int i = 0; i < bits; i++) {
                number = 2 * number + ((bytes[position >> 3] >> (7 - (position & 7))) & 1);
                position++;
            }
            return number;
        }

        int readSigned(int bits) {
            return bits == 0 ? 0 : signed(read(bits), bits);
        }

        /** A REST of a k below 15. */
        int readFolded(int k) {
            int tooMany = 1 << (MOST_REST_BITS - k);
            for (int ones = 0; ones < tooMany; ones++) {
                if (read(1) == 0) {
                    return unfold((ones << k) + read(k));
                }
            }
            faultIf(true, FAULT_VALUE);
            return 0;
        }
    }

    /** What a value is expected to be after those ahead of it; the FIXED kinds are a case of it. */
    private static final class Foretelling {
        final int[] c = new int[MOST_ORDER];
        int order;
        int shift;

        void becomeFixed(int newOrder) {
            order = newOrder;
            shift = 0;
            for (int j = 0; j < MOST_ORDER; j++) {
                c[j] = FIXED_COEFFICIENTS[newOrder * MOST_ORDER + j];
            }
        }

        void becomeTold(int newOrder, int newShift, long all) {
            order = newOrder;
            shift = newShift;
            for (int j = 0; j < newOrder; j++) {
                c[j] = signed((int) (all >> (j * COEFFICIENT_BITS)), COEFFICIENT_BITS);
            }
        }

        /** Wants as many values ahead of i as the order is. */
        int foretell(int[] v, int i) {
            int sum = 0;
            for (int j = 0; j < order && j < i; j++) {
                sum += c[j] * v[i - 1 - j];
            }
            return sum >> shift;
        }
    }

    /** How one row is packed. */
    private static final class RowForm {
        final int[] k = new int[MOST_PARTS];
        final int[] x = new int[MOST_PARTS];
        int kind;
        int wasted;
        int bits;
        int p = NONE;

        int countParts() {
            return p == NONE ? 0 : 1 << p;
        }

        void copyFrom(RowForm other) {
            kind = other.kind;
            wasted = other.wasted;
            bits = other.bits;
            p = other.p;
            System.arraycopy(other.k, 0, k, 0, MOST_PARTS);
            System.arraycopy(other.x, 0, x, 0, MOST_PARTS);
        }
    }

    /** A row's values without their wasted bits. */
    private static final class RowValues {
        final int[] v = new int[MOST_SAMPLES];
        int n;
        int b;
        int wasted;

        void strip(int[] from, int count, int bits) {
            int all = 0;
            for (int i = 0; i < count; i++) {
                all |= from[i];
            }
            int zeros = all == 0 ? 0 : Integer.numberOfTrailingZeros(all);
            wasted = Math.min(zeros, Math.min(bits - 1, MOST_WASTED));
            n = count;
            b = bits - wasted;
            for (int i = 0; i < count; i++) {
                v[i] = from[i] >> wasted;
            }
        }

        boolean areAlike() {
            for (int i = 1; i < n; i++) {
                if (v[i] != v[0]) {
                    return false;
                }
            }
            return true;
        }

        /** The REST of value i as the number u, which is never below 0. */
        int foldedRest(Foretelling f, int i) {
            int e = v[i] - f.foretell(v, i);
            return e < 0 ? -2 * e - 1 : 2 * e;
        }
    }

    /** Finds the cheapest p, and each PART's k and x. */
    private static final class PartChooser {
        // for each part and each k below 15 the 1s of its RESTS: 400 times 2^24 is beyond an int
        private final long[] ones = new long[MOST_PARTS * K_OF_WIDTHS];
        // all bits of a part's RESTS together are as wide as the widest of them
        private final int[] union = new int[MOST_PARTS];
        private final int[] k = new int[MOST_PARTS];
        private final int[] x = new int[MOST_PARTS];
        private int n;
        private int order;
        private int finest;

        /** Takes in a row's RESTS for the finest p; false if one has no room in 24 bits. */
        boolean gather(RowValues values, Foretelling f) {
            n = values.n;
            order = f.order;
            finest = 0;
            while (finest < MOST_P && mayBeP(finest + 1, n, order)) {
                finest++;
            }
            Arrays.fill(ones, 0L);
            Arrays.fill(union, 0);
            int each = n >> finest;
            int part = 0;
            int end = each;
            for (int i = order; i < n; i++) {
                if (i >= end) {
                    part++;
                    end += each;
                }
                int u = values.foldedRest(f, i);
                if (u >= 1 << MOST_REST_BITS) {
                    return false;
                }
                tally(part, u);
            }
            return true;
        }

        private void tally(int part, int u) {
            union[part] |= u;
            int left = u;
            for (int j = 0; j < K_OF_WIDTHS && left != 0; j++) {
                ones[part * K_OF_WIDTHS + j] += left;
                left >>= 1;
            }
        }

        /** Tells the form the cheapest parts; answers the RESTS' bits, those of p among them. */
        int chooseParts(RowForm form) {
            int best = NONE;
            for (int p = finest; p >= 0; p--) {
                int bits = P_BITS;
                for (int part = 0; part < 1 << p; part++) {
                    bits += weighPart(part, part == 0 ? (n >> p) - order : n >> p);
                }
                // of like ones the first p is due, and the p go downward here
                if (best == NONE || bits <= best) {
                    best = bits;
                    form.p = p;
                    System.arraycopy(k, 0, form.k, 0, MOST_PARTS);
                    System.arraycopy(x, 0, form.x, 0, MOST_PARTS);
                }
                joinPairs((1 << p) / 2);
            }
            return best;
        }

        private int weighPart(int part, int count) {
            int width = 32 - Integer.numberOfLeadingZeros(union[part]);
            long best = NONE;
            for (int j = 0; j < K_OF_WIDTHS; j++) {
                long bits = K_BITS + ones[part * K_OF_WIDTHS + j] + (long) count * (1 + j);
                if (best == NONE || bits < best) {
                    best = bits;
                    k[part] = j;
                    x[part] = NONE;
                }
            }
            int inWidths = K_BITS + X_BITS + count * width;
            if (inWidths < best) {
                best = inWidths;
                k[part] = K_OF_WIDTHS;
                x[part] = width;
            }
            return (int) best;
        }

        private void joinPairs(int pairs) {
            for (int part = 0; part < pairs; part++) {
                union[part] = union[2 * part] | union[2 * part + 1];
                for (int j = 0; j < K_OF_WIDTHS; j++) {
                    ones[part * K_OF_WIDTHS + j] = ones[2 * part * K_OF_WIDTHS + j]
                        + ones[(2 * part + 1) * K_OF_WIDTHS + j];
                }
            }
        }
    }

    /** Finds the cheapest KIND of a row. */
    private static final class RowChooser {
        final RowValues values = new RowValues();
        private final Foretelling own;
        private final Foretelling fixed = new Foretelling();
        private final PartChooser parts = new PartChooser();
        private final RowForm trial = new RowForm();

        RowChooser(Foretelling own) {
            this.own = own;
        }

        /** For the KINDS with RESTS alone. */
        Foretelling foretellingOf(int kind) {
            if (kind == FORETOLD) {
                return own;
            }
            fixed.becomeFixed(kind - FIXED);
            return fixed;
        }

        void chooseRow(int[] from, int n, int rowBits, RowForm form) {
            values.strip(from, n, rowBits);
            form.bits = NONE;
            for (int kind = 0; kind < KINDS; kind++) {
                int bits = weigh(kind);
                if (bits != NONE && (form.bits == NONE || bits < form.bits)) {
                    form.copyFrom(trial);
                }
            }
        }

        /** The bits of the values as a row of a KIND; NONE if it may not be. */
        int weigh(int kind) {
            trial.kind = kind;
            trial.wasted = values.wasted;
            trial.p = NONE;
            if (kind == LIKE) {
                trial.bits = values.areAlike() ? ROW_HEAD_BITS + values.b : NONE;
            } else if (kind == PLAIN) {
                trial.bits = ROW_HEAD_BITS + values.n * values.b;
            } else {
                trial.bits = weighForetold(kind);
            }
            return trial.bits;
        }

        private int weighForetold(int kind) {
            Foretelling f = foretellingOf(kind);
            boolean untold = kind == FORETOLD && f.order == 0;
            if (untold || f.order > values.n || !parts.gather(values, f)) {
                return NONE;
            }
            int bits = ROW_HEAD_BITS + f.order * values.b;
            if (kind == FORETOLD) {
                bits += ORDER_BITS + SHIFT_BITS + f.order * COEFFICIENT_BITS;
            }
            return bits + parts.chooseParts(trial);
        }
    }

    /** Chooses how a frame is packed, and writes it behind the stream. */
    private static final class FramePacker {
        final RowChooser chooser;
        final RowForm[] forms = {new RowForm(), new RowForm(), new RowForm(), new RowForm()};
        int n;
        int channels;
        int turn;
        int bits;
        private final BitStream stream;
        // channel 0, channel 1, SIDE, MIDDLE; the forms are theirs
        private final int[][] rows;
        private int sampleBits;

        FramePacker(int[][] samples, Foretelling own, BitStream stream) {
            chooser = new RowChooser(own);
            this.stream = stream;
            rows = new int[][] {samples[0], samples[1], new int[MOST_SAMPLES], new int[MOST_SAMPLES]};
        }

        void chooseFrame(int count, int channelCount, int depth) {
            n = count;
            channels = channelCount;
            sampleBits = depth;
            if (channels == 2) {
                mixChannels();
            }
            int rowsToChoose = channels == 2 ? rows.length : 1;
            for (int which = 0; which < rowsToChoose; which++) {
                chooser.chooseRow(rows[which], n, bitsOfRow(which, sampleBits), forms[which]);
            }
            chooseTurn();
        }

        private void mixChannels() {
            for (int i = 0; i < n; i++) {
                rows[SIDE][i] = rows[0][i] - rows[1][i];
                rows[MIDDLE][i] = (rows[0][i] + rows[1][i]) >> 1;
            }
        }

        private void chooseTurn() {
            turn = 0;
            if (channels == 1) {
                bits = HEAD_BITS + forms[0].bits;
                return;
            }
            bits = NONE;
            for (int t = 0; t < TURNS; t++) {
                int sum = HEAD_BITS + forms[FIRST_ROW[t]].bits + forms[SECOND_ROW[t]].bits;
                if (bits == NONE || sum < bits) {
                    bits = sum;
                    turn = t;
                }
            }
        }

        /** Wants room for the frame. */
        void writeFrame() {
            int place = stream.length;
            stream.begin(place);
            stream.write(n - 1, N_BITS);
            stream.write(channels - 1, CHANNELS_BITS);
            stream.write(turn, TURN_BITS);
            stream.write(sampleBits - 1, DEPTH_BITS);
            writeRow(FIRST_ROW[turn]);
            if (channels == 2) {
                writeRow(SECOND_ROW[turn]);
            }
            stream.write(0, stream.bitsToByte());
            stream.write(stream.sumOf(place, stream.placeNow()), SUM_BITS);
            stream.length = stream.placeNow();
        }

        private void writeRow(int which) {
            RowForm form = forms[which];
            chooser.values.strip(rows[which], n, bitsOfRow(which, sampleBits));
            stream.write(form.kind, KIND_BITS);
            stream.write(form.wasted, WASTED_BITS);
            if (form.kind == LIKE) {
                writeValues(1);
            } else if (form.kind == PLAIN) {
                writeValues(n);
            } else {
                writeForetold(form);
            }
        }

        private void writeValues(int count) {
            for (int i = 0; i < count; i++) {
                stream.write(chooser.values.v[i], chooser.values.b);
            }
        }

        private void writeForetold(RowForm form) {
            Foretelling f = chooser.foretellingOf(form.kind);
            if (form.kind == FORETOLD) {
                stream.write(f.order - 1, ORDER_BITS);
                stream.write(f.shift, SHIFT_BITS);
                for (int j = 0; j < f.order; j++) {
                    stream.write(f.c[j], COEFFICIENT_BITS);
                }
            }
            writeValues(f.order);
            stream.write(form.p, P_BITS);
            int each = n >> form.p;
            for (int part = 0; part < form.countParts(); part++) {
                stream.write(form.k[part], K_BITS);
                if (form.k[part] == K_OF_WIDTHS) {
                    stream.write(form.x[part], X_BITS);
                }
                int from = part == 0 ? f.order : part * each;
                writeRests(f, from, (part + 1) * each, form.k[part], form.x[part]);
            }
        }

        private void writeRests(Foretelling f, int from, int to, int k, int x) {
            for (int i = from; i < to; i++) {
                int u = chooser.values.foldedRest(f, i);
                if (k == K_OF_WIDTHS) {
                    stream.write(unfold(u), x);
                } else {
                    stream.writeFolded(u, k);
                }
            }
        }
    }

    /** What the latest pack() tells, which outlives a later one that is refused; n is 0 if there was none. */
    private static final class PackedFrame {
        final RowForm first = new RowForm();
        final RowForm second = new RowForm();
        int n;
        int channels;
        int turn;
        int bits;

        void keep(FramePacker packer) {
            n = packer.n;
            channels = packer.channels;
            turn = packer.turn;
            bits = packer.bits;
            first.copyFrom(packer.forms[FIRST_ROW[turn]]);
            if (channels == 2) {
                second.copyFrom(packer.forms[SECOND_ROW[turn]]);
            }
        }
    }

    /** A frame as it was opened; n is 0 if there was none. */
    private static final class OpenedFrame {
        final int[][] rows = new int[CHANNELS][MOST_SAMPLES];
        final int[] kinds = new int[CHANNELS];
        int n;
        int channels;
        int turn;
        int sampleBits;
        int behind;

        /** Makes channels of the TURN's rows; false if a SAMPLE does not fit DEPTH bits. */
        boolean unturn() {
            for (int i = 0; i < n && turn != 0; i++) {
                int a = rows[0][i];
                int b = rows[1][i];
                if (turn == 1) {
                    b = a - b;
                } else if (turn == 2) {
                    a = a + b;
                } else {
                    int side = b;
                    int both = 2 * a + (side & 1);
                    a = (both + side) >> 1;
                    b = a - side;
                }
                if (!fits(a, sampleBits) || !fits(b, sampleBits)) {
                    return false;
                }
                rows[0][i] = a;
                rows[1][i] = b;
            }
            return true;
        }
    }

    /** Reads rows of the stream; what they hold behind a fault does not count. */
    private static final class RowReader {
        private final BitStream stream;
        private final Foretelling f = new Foretelling();
        private int n;
        private int b;

        RowReader(BitStream stream) {
            this.stream = stream;
        }

        /** Answers the KIND. */
        int readRow(int[] v, int count, int rowBits) {
            n = count;
            int kind = stream.read(KIND_BITS);
            int wasted = stream.read(WASTED_BITS);
            if (stream.faultIf(wasted >= rowBits, FAULT_WASTED)) {
                return kind;
            }
            b = rowBits - wasted;
            if (kind == LIKE) {
                fillRow(v, stream.readSigned(b));
            } else if (kind == PLAIN) {
                readValues(v, n);
            } else {
                readForetold(v, kind);
            }
            for (int i = 0; i < n; i++) {
                v[i] <<= wasted;
            }
            return kind;
        }

        private void fillRow(int[] v, int value) {
            for (int i = 0; i < n; i++) {
                v[i] = value;
            }
        }

        private void readValues(int[] v, int count) {
            for (int i = 0; i < count; i++) {
                v[i] = stream.readSigned(b);
            }
        }

        private void readForetold(int[] v, int kind) {
            int order = kind == FORETOLD ? 1 + stream.read(ORDER_BITS) : kind - FIXED;
            if (stream.faultIf(order > n, FAULT_ORDER)) {
                return;
            }
            if (kind == FORETOLD) {
                readCoefficients(order);
            } else {
                f.becomeFixed(order);
            }
            readValues(v, order);
            int p = stream.read(P_BITS);
            if (stream.faultIf(!mayBeP(p, n, order), FAULT_P)) {
                return;
            }
            int each = n >> p;
            for (int part = 0; part < 1 << p; part++) {
                readPart(v, part == 0 ? order : part * each, (part + 1) * each);
            }
        }

        private void readCoefficients(int order) {
            f.order = order;
            f.shift = stream.read(SHIFT_BITS);
            for (int j = 0; j < order; j++) {
                f.c[j] = stream.readSigned(COEFFICIENT_BITS);
            }
        }

        private void readPart(int[] v, int from, int to) {
            int k = stream.read(K_BITS);
            int x = k == K_OF_WIDTHS ? stream.read(X_BITS) : 0;
            if (stream.faultIf(x > MOST_REST_BITS, FAULT_X)) {
                return;
            }
            for (int i = from; i < to; i++) {
                int rest = k == K_OF_WIDTHS ? stream.readSigned(x) : stream.readFolded(k);
                int value = f.foretell(v, i) + rest;
                if (stream.faultIf(!fits(value, b), FAULT_VALUE)) {
                    return;
                }
                v[i] = value;
            }
        }
    }

    /** Opens frames of the stream. */
    private static final class FrameReader {
        private final BitStream stream;
        private final RowReader rowReader;

        FrameReader(BitStream stream) {
            this.stream = stream;
            rowReader = new RowReader(stream);
        }

        /** Answers the first fault, or 0; behind a fault the frame is half filled. */
        int readFrame(int place, OpenedFrame into) {
            stream.begin(place);
            readHead(into);
            into.kinds[1] = NONE;
            if (stream.fault == 0) {
                int rowBits = bitsOfRow(FIRST_ROW[into.turn], into.sampleBits);
                into.kinds[0] = rowReader.readRow(into.rows[0], into.n, rowBits);
            }
            if (stream.fault == 0 && into.channels == 2) {
                int rowBits = bitsOfRow(SECOND_ROW[into.turn], into.sampleBits);
                into.kinds[1] = rowReader.readRow(into.rows[1], into.n, rowBits);
            }
            if (stream.fault == 0) {
                readEnd(place, into);
            }
            return stream.fault;
        }

        private void readHead(OpenedFrame into) {
            into.n = 1 + stream.read(N_BITS);
            if (stream.faultIf(into.n > MOST_SAMPLES, FAULT_N)) {
                return;
            }
            into.channels = 1 + stream.read(CHANNELS_BITS);
            into.turn = stream.read(TURN_BITS);
            if (stream.faultIf(into.channels == 1 && into.turn != 0, FAULT_TURN)) {
                return;
            }
            into.sampleBits = 1 + stream.read(DEPTH_BITS);
        }

        private void readEnd(int place, OpenedFrame into) {
            int padding = stream.read(stream.bitsToByte());
            if (stream.faultIf(padding != 0, FAULT_PADDING)) {
                return;
            }
            int due = stream.sumOf(place, stream.placeNow());
            int sum = stream.read(SUM_BITS);
            if (stream.faultIf(sum != due, FAULT_SUM)) {
                return;
            }
            into.behind = stream.placeNow();
            stream.faultIf(!into.unturn(), FAULT_SAMPLE);
        }
    }
}
