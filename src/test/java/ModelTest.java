import java.util.ArrayList;
import java.util.List;
import java.util.Random;

/**
 * Runs of calls, drawn from fixed seeds, on the program and on a plain model of the document that
 * writes frames as texts of '0' and '1'. Every answer has to be the same.
 */
public final class ModelTest {
    static final int NONE = -1, BAD = -2, NO = -3, FULL = -4;

    static int wrong = 0;
    static long calls = 0;
    static final long[] faultsSeen = new long[12];
    static final long[] kindsPacked = new long[8];
    static final long[] kindsOpened = new long[8];
    static final long[] turnsPacked = new long[4];
    static final long[] psPacked = new long[5];
    static final long[] ksPacked = new long[16];
    static final long[] wastedPacked = new long[16];

    static final class Fault extends RuntimeException {
        private static final long serialVersionUID = 1L;
        final int number;

        Fault(int number) {
            super(null, null, false, false);
            this.number = number;
        }
    }

    static final class Row {
        int kind, w, p = NONE;
        int[] ks = {}, xs = {};
        String text;
    }

    static final class Opened {
        int n, channels, turn, depth, behind;
        int[] kinds = {NONE, NONE};
        int[][] rows = new int[2][];
    }

    static String bits(long v, int count) {
        StringBuilder s = new StringBuilder();
        for (int i = count - 1; i >= 0; i--) {
            s.append((v >> i & 1) == 1 ? '1' : '0');
        }
        return s.toString();
    }

    static boolean room(long v, int bits) {
        return bits == 0 ? v == 0 : v >= -(1L << (bits - 1)) && v <= (1L << (bits - 1)) - 1;
    }

    static int sum(List<Integer> bytes, int from, int to) {
        int s = 0;
        for (int i = from; i < to; i++) {
            s = s ^ bytes.get(i);
            for (int t = 0; t < 8; t++) {
                s = 2 * s;
                if (s > 255) {
                    s = s ^ 263;
                }
            }
        }
        return s;
    }

    static long fixedForetold(int o, long[] v, int i) {
        switch (o) {
            case 0: return 0;
            case 1: return v[i - 1];
            case 2: return 2 * v[i - 1] - v[i - 2];
            case 3: return 3 * v[i - 1] - 3 * v[i - 2] + v[i - 3];
            default: return 4 * v[i - 1] - 6 * v[i - 2] + 4 * v[i - 3] - v[i - 4];
        }
    }

    static long foretoldBy(int[] c, int shift, long[] v, int i) {
        long s = 0;
        for (int j = 0; j < c.length; j++) {
            s += c[j] * v[i - 1 - j];
        }
        return Math.floorDiv(s, 1L << shift);
    }

    static final class Model {
        final List<List<Integer>> samples = List.of(new ArrayList<>(), new ArrayList<>());
        int depth = 16;
        int[] c = {};
        int shift = 0;
        final List<Integer> stream = new ArrayList<>();
        int[] told;
        List<Row> toldRows;
        Opened opened;

        int depth(int b) {
            if (b < 1 || b > 16) return BAD;
            if (!samples.get(0).isEmpty() || !samples.get(1).isEmpty()) return NO;
            int was = depth;
            depth = b;
            return was;
        }

        int sample(int channel, int v) {
            if (channel != 0 && channel != 1) return BAD;
            if (!room(v, depth)) return BAD;
            if (samples.get(channel).size() == 400) return FULL;
            samples.get(channel).add(v);
            return samples.get(channel).size();
        }

        int drop(int channel) {
            if (channel != 0 && channel != 1) return BAD;
            int was = samples.get(channel).size();
            samples.get(channel).clear();
            return was;
        }

        int coefficients(int order, int newShift, long all) {
            if (order < 0 || order > 4) return BAD;
            if (order > 0 && (newShift < 0 || newShift > 15)) return BAD;
            int was = c.length;
            c = new int[order];
            shift = newShift;
            for (int j = 0; j < order; j++) {
                long ten = all >>> (10 * j) & 1023;
                c[j] = (int) (ten >= 512 ? ten - 1024 : ten);
            }
            return was;
        }

        Row asRow(List<Integer> from, int depthOfRow, int kind) {
            int n = from.size();
            Row row = new Row();
            row.kind = kind;
            boolean allZero = true;
            for (int v : from) {
                allZero = allZero && v == 0;
            }
            for (int w = 1; !allZero && w <= Math.min(15, depthOfRow - 1); w++) {
                boolean may = true;
                for (int v : from) {
                    may = may && Math.floorMod(v, 1 << w) == 0;
                }
                if (may) row.w = w;
            }
            int b = depthOfRow - row.w;
            long[] v = new long[n];
            for (int i = 0; i < n; i++) {
                v[i] = Math.floorDiv(from.get(i), 1 << row.w);
            }
            String head = bits(kind, 3) + bits(row.w, 4);
            if (kind == 0) {
                for (long one : v) {
                    if (one != v[0]) return null;
                }
                row.text = head + bits(v[0], b);
                return row;
            }
            if (kind == 1) {
                StringBuilder s = new StringBuilder(head);
                for (long one : v) {
                    s.append(bits(one, b));
                }
                row.text = s.toString();
                return row;
            }
            int o = kind == 7 ? c.length : kind - 2;
            if (o > n || (kind == 7 && o == 0)) return null;
            StringBuilder s = new StringBuilder(head);
            if (kind == 7) {
                s.append(bits(o - 1, 2)).append(bits(shift, 4));
                for (int one : c) {
                    s.append(bits(one, 10));
                }
            }
            for (int i = 0; i < o; i++) {
                s.append(bits(v[i], b));
            }
            long[] rests = new long[n];
            for (int i = o; i < n; i++) {
                rests[i] = v[i] - (kind == 7 ? foretoldBy(c, shift, v, i) : fixedForetold(o, v, i));
                if (!room(rests[i], 24)) return null;
            }
            String best = null;
            for (int p = 0; p <= 4; p++) {
                if (n % (1 << p) != 0 || n / (1 << p) < o) continue;
                int[] ks = new int[1 << p];
                int[] xs = new int[1 << p];
                StringBuilder t = new StringBuilder(bits(p, 3));
                for (int part = 0; part < 1 << p; part++) {
                    int each = n / (1 << p);
                    t.append(partText(rests, Math.max(part * each, part == 0 ? o : 0), (part + 1) * each, part, ks, xs));
                }
                if (best == null || t.length() < best.length()) {
                    best = t.toString();
                    row.p = p;
                    row.ks = ks;
                    row.xs = xs;
                }
            }
            row.text = s + best;
            return row;
        }

        static String partText(long[] rests, int from, int to, int part, int[] ks, int[] xs) {
            long best = Long.MAX_VALUE;
            int x = 0;
            for (int i = from; i < to; i++) {
                while (!room(rests[i], x)) x++;
            }
            for (int k = 0; k <= 15; k++) {
                long cost = k == 15 ? 9 + (long) x * (to - from) : 4;
                for (int i = from; i < to && k < 15; i++) {
                    long u = rests[i] < 0 ? -2 * rests[i] - 1 : 2 * rests[i];
                    cost += u / (1L << k) + 1 + k;
                }
                if (cost < best) {
                    best = cost;
                    ks[part] = k;
                    xs[part] = k == 15 ? x : NONE;
                }
            }
            int k = ks[part];
            StringBuilder s = new StringBuilder(bits(k, 4));
            if (k == 15) s.append(bits(x, 5));
            for (int i = from; i < to; i++) {
                if (k == 15) {
                    s.append(bits(rests[i], x));
                } else {
                    long u = rests[i] < 0 ? -2 * rests[i] - 1 : 2 * rests[i];
                    s.append("1".repeat((int) (u / (1L << k)))).append('0').append(bits(u, k));
                }
            }
            return s.toString();
        }

        Row bestRow(List<Integer> from, int depthOfRow) {
            Row best = null;
            for (int kind = 0; kind < 8; kind++) {
                Row row = asRow(from, depthOfRow, kind);
                if (row != null && (best == null || row.text.length() < best.text.length())) best = row;
            }
            return best;
        }

        int pack() {
            int n = samples.get(0).size();
            int second = samples.get(1).size();
            if (n == 0 || (second != 0 && second != n)) return NO;
            int channels = second == 0 ? 1 : 2;
            Row zero = bestRow(samples.get(0), depth);
            List<Row> rows = List.of(zero);
            int turn = 0;
            if (channels == 2) {
                List<Integer> side = new ArrayList<>();
                List<Integer> middle = new ArrayList<>();
                for (int i = 0; i < n; i++) {
                    int a = samples.get(0).get(i);
                    int b = samples.get(1).get(i);
                    side.add(a - b);
                    middle.add(Math.floorDiv(a + b, 2));
                }
                Row one = bestRow(samples.get(1), depth);
                Row s = bestRow(side, depth + 1);
                Row m = bestRow(middle, depth);
                List<List<Row>> turns = List.of(List.of(zero, one), List.of(zero, s), List.of(s, one), List.of(m, s));
                int fewest = Integer.MAX_VALUE;
                for (int t = 0; t < 4; t++) {
                    int cost = turns.get(t).get(0).text.length() + turns.get(t).get(1).text.length();
                    if (cost < fewest) {
                        fewest = cost;
                        turn = t;
                    }
                }
                rows = turns.get(turn);
            }
            StringBuilder s = new StringBuilder(bits(n - 1, 9) + bits(channels - 1, 1) + bits(turn, 2) + bits(depth - 1, 4));
            for (Row row : rows) {
                s.append(row.text);
            }
            int length = s.length();
            while (s.length() % 8 != 0) s.append('0');
            int bytes = s.length() / 8 + 1;
            if (stream.size() + bytes > 2400) return FULL;
            int place = stream.size();
            for (int i = 0; i < s.length(); i += 8) {
                stream.add(Integer.parseInt(s.substring(i, i + 8), 2));
            }
            stream.add(sum(stream, place, stream.size()));
            told = new int[] {n, channels, turn, length, bytes};
            toldRows = rows;
            return place;
        }

        int told(int what) {
            if (what < 0 || what > 4) return BAD;
            return told == null ? NO : told[what];
        }

        int row(int r, int what) {
            boolean may = (what >= 0 && what <= 3) || (what >= 10 && what <= 25) || (what >= 30 && what <= 45);
            if (r < 0 || r > 1 || !may) return BAD;
            if (told == null) return NO;
            if (r >= toldRows.size()) return BAD;
            Row row = toldRows.get(r);
            if (what == 0) return row.kind;
            if (what == 1) return row.w;
            if (what == 2) return row.text.length();
            if (what == 3) return row.p;
            int j = what < 30 ? what - 10 : what - 30;
            if (j >= row.ks.length) return BAD;
            return what < 30 ? row.ks[j] : row.xs[j];
        }

        int price(int channel, int kind) {
            if (channel < 0 || channel > 1 || kind < 0 || kind > 7 || samples.get(channel).isEmpty()) return BAD;
            Row row = asRow(samples.get(channel), depth, kind);
            return row == null ? NO : row.text.length();
        }

        int at(int i) {
            return i < 0 || i >= stream.size() ? BAD : stream.get(i);
        }

        int alter(int i, int b) {
            if (i < 0 || i >= stream.size() || b < 0 || b > 255) return BAD;
            return stream.set(i, b);
        }

        int add(int b) {
            if (b < 0 || b > 255) return BAD;
            if (stream.size() == 2400) return FULL;
            stream.add(b);
            return stream.size();
        }

        int cut(int n) {
            if (n < 0 || n > stream.size()) return BAD;
            int goes = stream.size() - n;
            stream.subList(n, stream.size()).clear();
            return goes;
        }

        int open(int at) {
            if (at < 0 || at >= stream.size()) return BAD;
            try {
                opened = read(at);
                faultsSeen[0]++;
                kindsOpened[opened.kinds[0]]++;
                return opened.n;
            } catch (Fault f) {
                faultsSeen[f.number]++;
                return -10 - f.number;
            }
        }

        // the reader's place, in bits
        int place;

        int bit() {
            if (place / 8 >= stream.size()) throw new Fault(1);
            int bit = stream.get(place / 8) >> (7 - place % 8) & 1;
            place++;
            return bit;
        }

        long number(int bits) {
            long v = 0;
            for (int i = 0; i < bits; i++) {
                v = 2 * v + bit();
            }
            return v;
        }

        long signedNumber(int bits) {
            long v = number(bits);
            return bits > 0 && v >= 1L << (bits - 1) ? v - (1L << bits) : v;
        }

        Opened read(int at) {
            place = 8 * at;
            Opened f = new Opened();
            f.n = (int) number(9) + 1;
            if (f.n > 400) throw new Fault(2);
            f.channels = (int) number(1) + 1;
            f.turn = (int) number(2);
            if (f.channels == 1 && f.turn != 0) throw new Fault(3);
            f.depth = (int) number(4) + 1;
            long[][] rows = new long[2][];
            for (int r = 0; r < f.channels; r++) {
                boolean side = (f.turn == 1 && r == 1) || (f.turn == 2 && r == 0) || (f.turn == 3 && r == 1);
                rows[r] = readRow(f, r, side ? f.depth + 1 : f.depth);
            }
            while (place % 8 != 0) {
                if (bit() != 0) throw new Fault(9);
            }
            int due = sum(stream, at, place / 8);
            if (number(8) != due) throw new Fault(10);
            f.behind = place / 8;
            for (int ch = 0; ch < f.channels; ch++) {
                f.rows[ch] = new int[f.n];
            }
            for (int i = 0; i < f.n; i++) {
                long a = rows[0][i];
                long b = f.channels == 2 ? rows[1][i] : 0;
                long zero = a;
                long one = b;
                if (f.turn == 1) one = a - b;
                if (f.turn == 2) zero = a + b;
                if (f.turn == 3) {
                    long both = 2 * a + (b % 2 != 0 ? 1 : 0);
                    zero = (both + b) / 2;
                    one = (both - b) / 2;
                }
                if (!room(zero, f.depth) || !room(one, f.depth)) throw new Fault(11);
                f.rows[0][i] = (int) zero;
                if (f.channels == 2) f.rows[1][i] = (int) one;
            }
            return f;
        }

        long[] readRow(Opened f, int r, int depthOfRow) {
            int n = f.n;
            int kind = (int) number(3);
            f.kinds[r] = kind;
            int w = (int) number(4);
            if (w >= depthOfRow) throw new Fault(4);
            int b = depthOfRow - w;
            long[] v = new long[n];
            if (kind == 0) {
                v[0] = signedNumber(b);
                for (int i = 1; i < n; i++) v[i] = v[0];
            } else if (kind == 1) {
                for (int i = 0; i < n; i++) v[i] = signedNumber(b);
            } else {
                int o = kind == 7 ? (int) number(2) + 1 : kind - 2;
                if (o > n) throw new Fault(5);
                int sh = kind == 7 ? (int) number(4) : 0;
                int[] cs = new int[kind == 7 ? o : 0];
                for (int j = 0; j < cs.length; j++) cs[j] = (int) signedNumber(10);
                for (int i = 0; i < o; i++) v[i] = signedNumber(b);
                int p = (int) number(3);
                if (p > 4 || n % (1 << p) != 0 || n / (1 << p) < o) throw new Fault(6);
                int i = o;
                for (int part = 0; part < 1 << p; part++) {
                    int k = (int) number(4);
                    int x = k == 15 ? (int) number(5) : 0;
                    if (x > 24) throw new Fault(7);
                    for (; i < (part + 1) * (n / (1 << p)); i++) {
                        long rest = k == 15 ? signedNumber(x) : folded(k);
                        v[i] = rest + (kind == 7 ? foretoldBy(cs, sh, v, i) : fixedForetold(o, v, i));
                        if (!room(v[i], b)) throw new Fault(8);
                    }
                }
            }
            for (int i = 0; i < n; i++) v[i] *= 1L << w;
            return v;
        }

        long folded(int k) {
            long high = 0;
            while (bit() == 1) {
                high += 1L << k;
                if (high >= 1L << 24) throw new Fault(8);
            }
            long u = high + number(k);
            return u % 2 == 0 ? u / 2 : -(u + 1) / 2;
        }

        int shown(int what) {
            if (what < 0 || what > 6) return BAD;
            if (opened == null) return NO;
            int[] all = {opened.n, opened.channels, opened.turn, opened.depth, opened.behind, opened.kinds[0], opened.kinds[1]};
            return all[what];
        }

        /** Integer.MIN_VALUE for the exception. */
        int got(int channel, int i) {
            if (opened == null || channel < 0 || channel >= opened.channels || i < 0 || i >= opened.n) return Integer.MIN_VALUE;
            return opened.rows[channel][i];
        }

        int take() {
            if (opened == null) return NO;
            depth = opened.depth;
            for (int ch = 0; ch < 2; ch++) {
                samples.get(ch).clear();
                for (int i = 0; i < opened.n && ch < opened.channels; i++) samples.get(ch).add(opened.rows[ch][i]);
            }
            return opened.n;
        }

        int frames() {
            int good = 0;
            int from = 0;
            try {
                while (from < stream.size()) {
                    from = read(from).behind;
                    good++;
                }
                return good;
            } catch (Fault f) {
                return -10 - good;
            }
        }
    }

    /** The program and the model, side by side. */
    static final class Pair {
        final SamplePacks x = new SamplePacks();
        final Model m = new Model();
        final String name;

        Pair(String name) {
            this.name = name;
        }

        int due(String call, int got, int want) {
            calls++;
            if (got != want) {
                wrong++;
                if (wrong < 40) System.out.println(name + ": " + call + " answered " + got + ", due is " + want);
            }
            return want;
        }

        int depth(int b) { return due("depth(" + b + ")", x.depth(b), m.depth(b)); }
        int sample(int ch, int v) { return due("sample(" + ch + ", " + v + ")", x.sample(ch, v), m.sample(ch, v)); }
        int drop(int ch) { return due("drop(" + ch + ")", x.drop(ch), m.drop(ch)); }
        int coefficients(int o, int s, long c) { return due("coefficients(" + o + ", " + s + ", " + c + ")", x.coefficients(o, s, c), m.coefficients(o, s, c)); }
        int pack() { return due("pack()", x.pack(), m.pack()); }
        int told(int w) { return due("told(" + w + ")", x.told(w), m.told(w)); }
        int row(int r, int w) { return due("row(" + r + ", " + w + ")", x.row(r, w), m.row(r, w)); }
        int price(int ch, int k) { return due("price(" + ch + ", " + k + ")", x.price(ch, k), m.price(ch, k)); }
        int size() { return due("size()", x.size(), m.stream.size()); }
        int at(int i) { return due("at(" + i + ")", x.at(i), m.at(i)); }
        int alter(int i, int b) { return due("alter(" + i + ", " + b + ")", x.alter(i, b), m.alter(i, b)); }
        int add(int b) { return due("add(" + b + ")", x.add(b), m.add(b)); }
        int cut(int n) { return due("cut(" + n + ")", x.cut(n), m.cut(n)); }
        int open(int at) { return due("open(" + at + ")", x.open(at), m.open(at)); }
        int shown(int w) { return due("shown(" + w + ")", x.shown(w), m.shown(w)); }
        int take() { return due("take()", x.take(), m.take()); }
        int frames() { return due("frames()", x.frames(), m.frames()); }

        int got(int ch, int i) {
            int answer;
            try {
                answer = x.got(ch, i);
            } catch (ArrayIndexOutOfBoundsException e) {
                answer = Integer.MIN_VALUE;
            }
            return due("got(" + ch + ", " + i + ")", answer, m.got(ch, i));
        }

        void lookAtAll() {
            for (int w = -1; w <= 5; w++) told(w);
            for (int r = -1; r <= 2; r++) {
                for (int w = -1; w <= 47; w++) row(r, w);
            }
            for (int w = -1; w <= 7; w++) shown(w);
            for (int ch = -1; ch <= 2; ch++) {
                got(ch, -1);
                for (int i = 0; m.opened != null && i <= m.opened.n; i++) got(ch, i);
            }
        }

        void lookAtStream() {
            for (int i = -1; i <= m.stream.size(); i++) at(i);
            size();
        }

        void lookAtPrices() {
            for (int ch = -1; ch <= 2; ch++) {
                for (int k = -1; k <= 8; k++) price(ch, k);
            }
        }

        void countPacked() {
            turnsPacked[m.told[2]]++;
            for (Row row : m.toldRows) {
                kindsPacked[row.kind]++;
                wastedPacked[row.w]++;
                if (row.p >= 0) psPacked[row.p]++;
                for (int k : row.ks) ksPacked[k]++;
            }
        }
    }

    static int clip(double v, int depth) {
        long top = (1L << (depth - 1)) - 1;
        return (int) Math.max(-top - 1, Math.min(top, Math.round(v)));
    }

    /** Samples of many shapes. */
    static int[] shape(Random r, int n, int depth) {
        int[] v = new int[n];
        double top = 1L << (depth - 1);
        int kind = r.nextInt(10);
        double a = r.nextDouble() * top;
        double step = r.nextDouble() * 0.5;
        double noise = Math.pow(2, r.nextDouble() * depth) * 0.1;
        double walk = 0;
        double slope = 0;
        int waste = r.nextInt(3) == 0 ? r.nextInt(depth) : 0;
        int quiet = r.nextInt(16);
        for (int i = 0; i < n; i++) {
            double now;
            switch (kind) {
                case 0: now = a; break;
                case 1: now = (r.nextDouble() * 2 - 1) * top; break;
                case 2: now = a * Math.sin(i * step) + r.nextGaussian() * noise; break;
                case 3: walk += r.nextGaussian() * noise; now = walk; break;
                case 4: slope += r.nextGaussian() * noise * 0.05; walk += slope; now = walk; break;
                case 5: now = r.nextInt(8) == 0 ? (r.nextDouble() * 2 - 1) * top : 0; break;
                case 6: now = i * 16 / n == quiet ? r.nextGaussian() * top / 3 : r.nextGaussian() * noise; break;
                case 7: now = r.nextBoolean() ? top : -top; break;
                case 8: now = a * Math.sin(i * step * 0.05); break;
                default: now = r.nextGaussian() * noise; break;
            }
            v[i] = clip(now, depth) >> waste << waste;
        }
        return v;
    }

    static int drawN(Random r) {
        switch (r.nextInt(6)) {
            case 0: return 1 + r.nextInt(6);
            case 1: return 16 * (1 + r.nextInt(25));
            case 2: return 1 << r.nextInt(9);
            case 3: return 400;
            default: return 1 + r.nextInt(60);
        }
    }

    static void tellCoefficients(Pair p, Random r) {
        long[] good = {1, 2L | (-1L & 1023) << 10, 3L | (-3L & 1023) << 10 | 1L << 20, 500L, 200L | 50L << 10};
        int[] orders = {1, 2, 3, 1, 2};
        int[] shifts = {0, 0, 0, 9, 8};
        int draw = r.nextInt(9);
        if (draw < 5) {
            p.coefficients(orders[draw], shifts[draw], good[draw]);
        } else if (draw == 5) {
            p.coefficients(r.nextInt(7) - 1, r.nextInt(18) - 1, r.nextLong());
        } else if (draw == 6) {
            // c1 about 2 cos, c2 -1: what a wave is foretold by
            long c1 = Math.round(2 * Math.cos(r.nextDouble() * 0.5) * 128);
            p.coefficients(2, 7, (c1 & 1023) | (-128L & 1023) << 10 | r.nextLong() << 20);
        } else {
            p.coefficients(1 + r.nextInt(4), r.nextInt(16), r.nextLong());
        }
    }

    /** Coefficients, and samples that follow them but for some noise. */
    static void followCoefficients(Pair p, Random r, int[] v, int depth) {
        int order = 1 + r.nextInt(Math.min(4, v.length));
        int shift = 6 + r.nextInt(4);
        double angle = 0.3 + r.nextDouble() * 2;
        double[] c = {2 * 0.97 * Math.cos(angle), -0.97 * 0.97, 0.1, -0.1};
        if (order == 1) c[0] = r.nextBoolean() ? 0.5 : -0.9;
        long all = r.nextLong() << 40;
        int[] whole = new int[order];
        for (int j = 0; j < order; j++) {
            whole[j] = (int) Math.max(-512, Math.min(511, Math.round(c[j] * (1 << shift))));
            all |= (whole[j] & 1023L) << (10 * j);
        }
        double noise = r.nextInt(3) * 0.4;
        for (int i = order; i < v.length; i++) {
            long s = 0;
            for (int j = 0; j < order; j++) s += (long) whole[j] * v[i - 1 - j];
            v[i] = clip(Math.floorDiv(s, 1L << shift) + r.nextGaussian() * noise, depth);
        }
        p.coefficients(order, shift, all);
    }

    static void packRun(int seed) {
        Random r = new Random(seed);
        Pair p = new Pair("pack run " + seed);
        p.lookAtAll();
        for (int round = 0; round < 4; round++) {
            p.drop(0);
            p.drop(1);
            int depth = r.nextInt(3) == 0 ? 16 : 1 + r.nextInt(16);
            p.depth(depth);
            int n = drawN(r);
            int[] zero = shape(r, n, depth);
            int[] one = shape(r, n, depth);
            tellCoefficients(p, r);
            if (r.nextInt(3) == 0) followCoefficients(p, r, zero, depth);
            int mix = r.nextInt(6);
            boolean two = mix != 0;
            for (int i = 0; i < n; i++) {
                if (mix == 2) one[i] = clip(zero[i] + r.nextGaussian(), depth);
                if (mix == 3) one[i] = clip(one[i] * 0.1 + zero[i], depth);
                if (mix == 4) {
                    int half = one[i] / 8;
                    one[i] = clip(zero[i] - half, depth);
                    zero[i] = clip(zero[i] + half, depth);
                }
                p.sample(0, zero[i]);
                if (two) p.sample(1, one[i]);
            }
            if (r.nextInt(20) == 0) p.sample(r.nextInt(2), 0);
            p.depth(3);
            p.lookAtPrices();
            if (p.pack() >= 0) {
                p.countPacked();
                p.open(p.m.stream.size() - p.m.told[4]);
            }
            p.lookAtAll();
            p.frames();
        }
        p.lookAtStream();
        for (int i = 0; i < 60 && !p.m.stream.isEmpty(); i++) {
            int at = r.nextInt(p.m.stream.size());
            int was = p.alter(at, p.m.stream.get(at) ^ 1 << r.nextInt(8));
            p.open(0);
            p.open(r.nextInt(p.m.stream.size()));
            p.frames();
            if (r.nextInt(4) != 0) p.alter(at, was);
        }
        p.take();
        p.lookAtPrices();
        if (p.pack() >= 0) p.countPacked();
        p.cut(r.nextInt(p.m.stream.size() + 1));
        p.frames();
        p.lookAtAll();
        p.lookAtStream();
    }

    /** Frames whose fields are drawn one by one, most of them right, so that each fault comes up. */
    static final class Drawing {
        final Random r;
        final StringBuilder s = new StringBuilder();

        Drawing(Random r) {
            this.r = r;
        }

        void field(long v, int bits) {
            s.append(bits(v, bits));
        }

        void noise(int bits) {
            field(r.nextLong(), bits);
        }

        boolean seldom() {
            return r.nextInt(25) == 0;
        }

        void row(int n, int depthOfRow) {
            int kind = r.nextInt(8);
            int w = seldom() ? r.nextInt(16) : r.nextInt(3) == 0 ? r.nextInt(Math.min(depthOfRow, 16)) : 0;
            field(kind, 3);
            field(w, 4);
            int b = Math.max(1, depthOfRow - w);
            if (kind == 0) noise(b);
            for (int i = 0; kind == 1 && i < n; i++) noise(b);
            if (kind < 2) return;
            int o = kind - 2;
            if (kind == 7) {
                o = 1 + r.nextInt(seldom() ? 4 : Math.min(4, n));
                field(o - 1, 2);
                field(r.nextInt(4) == 0 ? r.nextInt(16) : 9 + r.nextInt(7), 4);
                noise(10 * o);
            }
            for (int i = 0; i < o; i++) {
                if (r.nextInt(3) == 0) noise(b);
                else field(r.nextInt(3) - 1, b);
            }
            int p = r.nextInt(seldom() ? 8 : 5);
            while (!seldom() && p > 0 && (n % (1 << p) != 0 || n / (1 << p) < o)) p--;
            field(p, 3);
            for (int part = 0; part < 1 << p; part++) {
                int count = n / (1 << p) - (part == 0 ? o : 0);
                part(count, b);
            }
        }

        void part(int count, int b) {
            int k = r.nextInt(3) == 0 ? r.nextInt(16) : r.nextInt(Math.max(1, Math.min(15, b - 1)));
            if (r.nextInt(3) == 0) k = 15;
            field(k, 4);
            int x = seldom() ? r.nextInt(32) : r.nextInt(Math.max(1, b));
            if (k == 15) field(x, 5);
            boolean small = r.nextInt(3) != 0;
            for (int i = 0; i < count; i++) {
                if (k == 15) {
                    field(small ? 0 : r.nextInt() >> r.nextInt(32), x);
                } else {
                    int ones = r.nextInt(3000) == 0 ? (1 << (24 - k)) + r.nextInt(3) - 1 : r.nextInt(6) == 0 ? r.nextInt(3) : 0;
                    s.append("1".repeat(Math.min(19000, ones))).append('0');
                    field(small ? r.nextInt(2) : r.nextLong(), k);
                }
            }
        }

        String frame() {
            int n = seldom() ? 1 + r.nextInt(512) : r.nextInt(2) == 0 ? 1 + r.nextInt(12) : 16 * (1 + r.nextInt(4));
            int channels = 1 + r.nextInt(2);
            int turn = channels == 2 || seldom() ? r.nextInt(4) : 0;
            int depth = r.nextInt(3) == 0 ? 16 : 1 + r.nextInt(16);
            field(n - 1, 9);
            field(channels - 1, 1);
            field(turn, 2);
            field(depth - 1, 4);
            boolean firstIsSide = turn == 2;
            row(n, firstIsSide ? depth + 1 : depth);
            if (channels == 2) row(n, turn == 1 || turn == 3 ? depth + 1 : depth);
            while (s.length() % 8 != 0) s.append(seldom() ? '1' : '0');
            return s.toString();
        }
    }

    static void openRun(int seed) {
        Random r = new Random(seed);
        Pair p = new Pair("open run " + seed);
        for (int f = 0; f < 12; f++) {
            String frame = new Drawing(r).frame();
            int from = p.m.stream.size();
            for (int i = 0; i < frame.length(); i += 8) {
                p.add(Integer.parseInt(frame.substring(i, i + 8), 2));
            }
            int s = sum(p.m.stream, from, p.m.stream.size());
            if (r.nextInt(30) != 0) p.add(r.nextInt(30) == 0 ? r.nextInt(256) : s);
            int n = p.open(from);
            p.frames();
            if (n > 0 || f == 11) p.lookAtAll();
            if (n > 0 && r.nextInt(3) == 0) {
                p.take();
                p.lookAtPrices();
                if (p.pack() >= 0) p.countPacked();
                p.open(p.m.stream.size() - 1);
            }
            if (n <= 0 && r.nextInt(4) != 0) p.cut(from);
        }
        p.lookAtStream();
    }

    /** Bytes without any order. */
    static void noiseRun(int seed) {
        Random r = new Random(seed);
        Pair p = new Pair("noise run " + seed);
        for (int i = 0; i < 200; i++) {
            p.add(r.nextInt(3) == 0 ? 0 : r.nextInt(258) - 1);
        }
        for (int i = -1; i <= p.m.stream.size(); i++) {
            p.open(i);
        }
        p.frames();
        p.lookAtAll();
    }

    static void longOnesRun() {
        for (int k = 0; k <= 15; k++) {
            for (int more = -1; more <= 1; more++) {
                Pair p = new Pair("ones run k " + k + ", more " + more);
                int ones = Math.min(19000, (1 << (24 - k)) + more);
                // one value of 16 bits, FIXED of order 0, p 0
                String s = bits(0, 9) + "000" + bits(15, 4) + bits(2, 3) + "0000" + "000" + bits(k, 4) + "1".repeat(ones);
                for (int end = s.length() / 8 * 8; end <= s.length() + 24; end += 8) {
                    StringBuilder t = new StringBuilder(s);
                    while (t.length() < end) t.append('0');
                    p.cut(0);
                    for (int i = 0; i < end && i / 8 < 2400; i += 8) {
                        p.add(Integer.parseInt(t.substring(i, i + 8), 2));
                    }
                    p.open(0);
                    p.frames();
                }
            }
        }
    }

    static void tell(String name, long[] counts) {
        System.out.println(name + " " + java.util.Arrays.toString(counts));
    }

    static void wantAll(String name, long[] counts) {
        for (int i = 0; i < counts.length; i++) {
            if (counts[i] == 0) {
                wrong++;
                System.out.println("no run came upon " + name + " " + i);
            }
        }
    }

    public static void main(String[] args) {
        int times = args.length > 0 ? Integer.parseInt(args[0]) : 1;
        int first = args.length > 1 ? Integer.parseInt(args[1]) : 0;
        for (int seed = first; seed < first + 250 * times; seed++) packRun(seed);
        for (int seed = first; seed < first + 2000 * times; seed++) openRun(seed);
        for (int seed = first; seed < first + 100 * times; seed++) noiseRun(seed);
        longOnesRun();
        tell("faults", faultsSeen);
        tell("kinds packed", kindsPacked);
        tell("kinds opened", kindsOpened);
        tell("turns packed", turnsPacked);
        tell("p packed", psPacked);
        tell("k packed", ksPacked);
        tell("w packed", wastedPacked);
        wantAll("fault", faultsSeen);
        wantAll("kind packed", kindsPacked);
        wantAll("kind opened", kindsOpened);
        wantAll("turn packed", turnsPacked);
        wantAll("p packed", psPacked);
        wantAll("k packed", ksPacked);
        wantAll("w packed", wastedPacked);
        System.out.println(calls + " calls, " + wrong + " wrong");
        if (wrong != 0) System.exit(1);
    }
}
