import java.math.BigInteger;
import java.util.ArrayList;
import java.util.Arrays;
import java.util.HashMap;
import java.util.List;
import java.util.Map;
import java.util.Random;

/** Runs of calls by chance, the same ones each time, on MixedPredict and on a second telling of the document. */
public final class ReferenceTest extends Check {
    private static final int MOST_CALLS = 512;
    private static final int RUNS = 1500;
    private static final int MOST_WRONG = 20;

    private static int wrong = 0;

    public static void main(String[] args) {
        for (int run = 0; run < RUNS && wrong < MOST_WRONG; run++) {
            new Run(run).go();
        }
        System.out.println(wrong == 0 ? "ReferenceTest: all as due" : "ReferenceTest: " + wrong + " not as due");
        if (wrong != 0) {
            System.exit(1);
        }
    }

    /** One run: a new object, at most 512 calls. */
    private static final class Run {
        private final int number;
        private final Random random;
        private final MixedPredict x;
        private final Reference y;
        private int calls = 0;

        Run(int number) {
            this.number = number;
            random = new Random(number);
            int width = size(16);
            int height = size(16);
            int bits = size(8);
            int channels = size(3);
            x = new MixedPredict(width, height, bits, channels);
            y = new Reference(width, height, bits, channels);
        }

        private int size(int most) {
            return random.nextInt(8) == 0 ? most : random.nextInt(most + 2);
        }

        void go() {
            for (int what = 3; what < 7; what++) {
                told(what);
            }
            while (calls < MOST_CALLS - 40) {
                switch (random.nextInt(10)) {
                    case 0: paint(); break;
                    case 1: putSome(); break;
                    case 2: code(); break;
                    case 3: passAndDecode(false); break;
                    case 4: passAndDecode(true); break;
                    case 5: feedTile(); break;
                    case 6: learnt(); break;
                    case 7: samples(); break;
                    case 8: oddCalls(); break;
                    default: if (random.nextInt(20) == 0) { clear(); } break;
                }
            }
        }

        private boolean same(String call, Call got, Call want) {
            if (calls++ >= MOST_CALLS) {
                return false;
            }
            Object a = answer(got);
            Object b = answer(want);
            if (!b.equals(a) && wrong++ < MOST_WRONG) {
                System.out.println("run " + number + ", call " + calls + ": " + call
                        + " answered " + a + ", due is " + b);
            }
            return true;
        }

        private void paint() {
            int v = random.nextInt(3) == 0 ? random.nextInt() : random.nextInt(256);
            int[] steps = {0, 0, 1, -1, random.nextInt(8), random.nextInt(256), random.nextInt()};
            int step = steps[random.nextInt(steps.length)];
            same("paint(" + v + ", " + step + ")", () -> x.paint(v, step), () -> y.paint(v, step));
        }

        private void putSome() {
            int shape = random.nextInt(3);
            for (int i = random.nextInt(60); i >= 0; i--) {
                int v = shape == 0 ? random.nextInt(1 << y.bits) : shape == 1 ? y.greatest() : i & y.greatest();
                put(random.nextInt(y.width), random.nextInt(y.height), random.nextInt(y.channels), v);
            }
        }

        private void put(int column, int row, int channel, int v) {
            same("put(" + column + ", " + row + ", " + channel + ", " + v + ")",
                    () -> x.put(column, row, channel, v), () -> y.put(column, row, channel, v));
        }

        private void code() {
            same("encode()", () -> x.encode(), () -> y.encode());
            told(1);
            if (calls + 60 < MOST_CALLS && random.nextInt(3) == 0) {
                for (int i = random.nextInt(40); i >= 0; i--) {
                    byteAt(random.nextInt(y.coded.size()));
                }
                byteAt(y.coded.size() - 1);
                byteAt(y.coded.size());
            } else {
                allBytes();
            }
        }

        /** All bytes, of another object with the same samples: its calls do not count to those of this run. */
        private void allBytes() {
            MixedPredict copy = new MixedPredict(y.width, y.height, y.bits, y.channels);
            if (y.width * y.height * y.channels + y.coded.size() + 1 > MOST_CALLS) {
                return;
            }
            for (int[] place : y.places()) {
                copy.put(place[0], place[1], place[2], y.at(place[0], place[1], place[2]));
            }
            copy.encode();
            for (int i = 0; i < y.coded.size(); i++) {
                if (copy.byteAt(i) != y.coded.get(i)) {
                    wrong++;
                    System.out.println("run " + number + ": byte " + i + " is another one");
                    return;
                }
            }
        }

        private void byteAt(int i) {
            same("byteAt(" + i + ")", () -> x.byteAt(i), () -> y.byteAt(i));
        }

        private void passAndDecode(boolean damaged) {
            same("pass()", () -> x.pass(), () -> y.pass());
            for (int i = damaged ? random.nextInt(3) : -1; i >= 0; i--) {
                damage();
            }
            if (random.nextInt(3) > 0) {
                paint();
            }
            told(2);
            same("decode()", () -> x.decode(), () -> y.decode());
            told(2);
            samples();
        }

        /** Sometimes such that the sum is as before, so that the other faults are seen. */
        private void damage() {
            int size = y.unread.size();
            if (size == 0) {
                return;
            }
            int mask = 1 << random.nextInt(8);
            List<Integer> heads = y.heads();
            int head = heads.get(random.nextInt(heads.size()));
            int kind = random.nextInt(5);
            if (kind == 0) {
                poke(random.nextInt(size), mask);
            } else if (kind == 1) {
                poke(head, mask);
            } else if (kind == 2) {
                poke(head, 1);
            } else {
                poke(head + (kind == 3 ? 4 + random.nextInt(8) : 1 + random.nextInt(2)), mask);
                poke(head + 3, mask);
            }
        }

        private void poke(int i, int mask) {
            same("poke(" + i + ", " + mask + ")", () -> x.poke(i, mask), () -> y.poke(i, mask));
        }

        /** A tile of bytes by chance, with a sum that is right, then decode: with more of them, where there is room. */
        private void feedTile() {
            int kind = random.nextInt(2);
            int tile = 0;
            while (tile < y.tiles() && calls < MOST_CALLS - 60) {
                int follow = kind == 0 ? y.placesOf(tile).size() : random.nextInt(30);
                if (calls + follow > MOST_CALLS - 60) {
                    break;
                }
                int great = random.nextInt(6) == 0 ? 255 : y.greatest();
                int[] bytes = new int[follow];
                int sum = 165 ^ follow & 255 ^ follow >> 8;
                for (int i = 0; i < follow; i++) {
                    bytes[i] = random.nextInt((kind == 0 ? great : 255) + 1);
                    sum ^= bytes[i];
                }
                feed(kind);
                feed(follow & 255);
                feed(follow >> 8);
                feed(sum);
                for (int b : bytes) {
                    feed(b);
                }
                tile++;
                kind = random.nextInt(2);
            }
            same("decode()", () -> x.decode(), () -> y.decode());
            samples();
        }

        private void feed(int b) {
            same("feed(" + b + ")", () -> x.feed(b), () -> y.feed(b));
        }

        private void learnt() {
            for (int way = 0; way < 9; way++) {
                int w = way;
                same("weight(" + w + ")", () -> x.weight(w), () -> y.weight(w));
            }
            for (int i = 0; i < 12; i++) {
                boolean first = random.nextBoolean();
                int channel = random.nextInt(y.channels);
                int kind = random.nextInt(4);
                int node = random.nextInt(4) == 0 ? 1 : 1 + random.nextInt(y.greatest());
                chance(first, channel, kind, node);
            }
            for (int channel = 0; channel < y.channels; channel++) {
                int c = channel;
                same("share(" + c + ")", () -> x.share(c), () -> y.share(c));
            }
            for (int tile = 0; tile < y.tiles(); tile++) {
                int t = tile;
                same("plain(" + t + ")", () -> x.plain(t), () -> y.plain(t));
            }
        }

        private void chance(boolean first, int channel, int kind, int node) {
            same("chance(" + first + ", " + channel + ", " + kind + ", " + node + ")",
                    () -> x.chance(first, channel, kind, node), () -> y.chance(first, channel, kind, node));
        }

        private void samples() {
            for (int i = 0; i < 12; i++) {
                int column = random.nextInt(y.width);
                int row = random.nextInt(y.height);
                int channel = random.nextInt(y.channels);
                int way = random.nextInt(9);
                same("at(" + column + ", " + row + ", " + channel + ")",
                        () -> x.at(column, row, channel), () -> y.at(column, row, channel));
                same("predicted(" + column + ", " + row + ", " + channel + ", " + way + ")",
                        () -> x.predicted(column, row, channel, way), () -> y.predicted(column, row, channel, way));
            }
        }

        private void told(int what) {
            same("told(" + what + ")", () -> x.told(what), () -> y.told(what));
        }

        private void clear() {
            same("clear()", () -> { x.clear(); return 0; }, () -> { y.clear(); return 0; });
        }

        private int odd(int limit) {
            int[] numbers = {0, 0, limit - 1, limit, -1, Integer.MIN_VALUE, Integer.MAX_VALUE, random.nextInt()};
            return numbers[random.nextInt(numbers.length)];
        }

        private void oddCalls() {
            int column = odd(y.width);
            int row = odd(y.height);
            int channel = odd(y.channels);
            int way = odd(9);
            int kind = odd(4);
            int node = odd(1 << y.bits);
            int tile = odd(y.tiles());
            put(column, row, channel, odd(1 << y.bits));
            same("at odd", () -> x.at(column, row, channel), () -> y.at(column, row, channel));
            same("predicted odd",
                    () -> x.predicted(column, row, channel, way), () -> y.predicted(column, row, channel, way));
            byteAt(odd(y.coded.size()));
            same("plain odd", () -> x.plain(tile), () -> y.plain(tile));
            same("weight odd", () -> x.weight(way), () -> y.weight(way));
            chance(random.nextBoolean(), channel, kind, node);
            same("share odd", () -> x.share(channel), () -> y.share(channel));
            feed(odd(256));
            poke(odd(y.unread.size()), odd(256));
            told(odd(7));
        }
    }

    /** The document once more, plain and slow: its words in their order, nothing kept that can be reckoned. */
    private static final class Reference {
        final int width;
        final int height;
        final int bits;
        final int channels;
        List<Integer> coded = new ArrayList<>();
        List<Integer> unread = new ArrayList<>();
        private Map<String, Integer> samples = new HashMap<>();
        private List<Boolean> plain = new ArrayList<>();
        private Learnt learnt;

        Reference(int width, int height, int bits, int channels) {
            this.width = Math.max(1, Math.min(16, width));
            this.height = Math.max(1, Math.min(16, height));
            this.bits = Math.max(1, Math.min(8, bits));
            this.channels = Math.max(1, Math.min(3, channels));
            learnt = new Learnt(this);
        }

        int greatest() {
            return (1 << bits) - 1;
        }

        int mid() {
            return 1 << (bits - 1);
        }

        int tiles() {
            return (width > 8 ? 2 : 1) * (height > 8 ? 2 : 1);
        }

        List<int[]> places() {
            List<int[]> all = new ArrayList<>();
            for (int i = 0; i < width * height * channels; i++) {
                all.add(new int[] {i / channels % width, i / channels / width, i % channels});
            }
            return all;
        }

        private int tileOf(int x, int y) {
            return x / 8 + (width > 8 ? 2 : 1) * (y / 8);
        }

        List<int[]> placesOf(int tile) {
            List<int[]> some = new ArrayList<>();
            for (int[] place : places()) {
                if (tileOf(place[0], place[1]) == tile) {
                    some.add(place);
                }
            }
            return some;
        }

        private void refuse(boolean index) {
            if (index) {
                throw new IndexOutOfBoundsException();
            }
        }

        private void refuseNumber(boolean argument) {
            if (argument) {
                throw new IllegalArgumentException();
            }
        }

        private void refusePlace(int x, int y, int channel) {
            refuse(x < 0 || x >= width || y < 0 || y >= height || channel < 0 || channel >= channels);
        }

        boolean put(int x, int y, int channel, int v) {
            refusePlace(x, y, channel);
            refuseNumber(v < 0 || v > greatest());
            int old = at(x, y, channel);
            samples.put(x + "," + y + "," + channel, v);
            return old != v;
        }

        int paint(int v, int step) {
            BigInteger next = BigInteger.valueOf(v);
            int others = 0;
            for (int[] place : places()) {
                int rest = next.mod(BigInteger.valueOf(1 << bits)).intValue();
                others += put(place[0], place[1], place[2], rest) ? 1 : 0;
                next = next.add(BigInteger.valueOf(step));
            }
            return others;
        }

        int at(int x, int y, int channel) {
            refusePlace(x, y, channel);
            return samples.getOrDefault(x + "," + y + "," + channel, 0);
        }

        private int near(int x, int y, int channel, int dx, int dy) {
            int column = x + dx;
            int row = y + dy;
            boolean there = column >= 0 && column < width && row >= 0 && row < height;
            return there && tileOf(column, row) == tileOf(x, y) ? at(column, row, channel) : mid();
        }

        int predicted(int x, int y, int channel, int way) {
            refusePlace(x, y, channel);
            refuse(way < 0 || way > 8);
            int a = near(x, y, channel, -1, 0);
            int b = near(x, y, channel, 0, -1);
            int c = near(x, y, channel, -1, -1);
            int d = near(x, y, channel, 1, -1);
            int before = channel == 0 ? mid() : at(x, y, channel - 1);
            int[] numbers = {a, b, c, d, a + b - c, Math.floorDiv(a + b, 2), a + Math.floorDiv(b - c, 2),
                b + Math.floorDiv(a - c, 2), before};
            return Math.max(0, Math.min(greatest(), numbers[way]));
        }

        int texture(int x, int y, int channel) {
            int a = near(x, y, channel, -1, 0);
            int b = near(x, y, channel, 0, -1);
            int c = near(x, y, channel, -1, -1);
            return Math.min(3, (Math.abs(a - c) + Math.abs(b - c)) / 4);
        }

        int encode() {
            coded = new ArrayList<>();
            plain = new ArrayList<>();
            for (int tile = 0; tile < tiles(); tile++) {
                learnt = new Learnt(this);
                List<Integer> out = new ArrayList<>();
                learnt.write(placesOf(tile), out);
                boolean asItIs = out.size() >= placesOf(tile).size();
                if (asItIs) {
                    out.clear();
                    for (int[] place : placesOf(tile)) {
                        out.add(at(place[0], place[1], place[2]));
                    }
                }
                plain.add(asItIs);
                coded.addAll(Arrays.asList(asItIs ? 0 : 1, out.size() % 256, out.size() / 256, sum(out)));
                coded.addAll(out);
            }
            return coded.size();
        }

        private static int sum(List<Integer> follow) {
            int sum = 165 ^ (follow.size() % 256) ^ (follow.size() / 256);
            for (int b : follow) {
                sum ^= b;
            }
            return sum;
        }

        int byteAt(int i) {
            refuse(i < 0 || i >= coded.size());
            return coded.get(i);
        }

        boolean plain(int tile) {
            refuse(tile < 0 || tile >= tiles());
            return !plain.isEmpty() && plain.get(tile);
        }

        int weight(int way) {
            refuse(way < 0 || way > 8);
            return learnt.weights[way];
        }

        int chance(boolean first, int channel, int kind, int node) {
            refuse(channel < 0 || channel >= channels);
            refuseNumber(kind < 0 || kind > 3 || node < 1 || node > greatest());
            return learnt.chance(first, channel, kind, node);
        }

        int share(int channel) {
            refuse(channel < 0 || channel >= channels);
            return learnt.shares[channel];
        }

        int feed(int b) {
            refuseNumber(b < 0 || b > 255);
            if (unread.size() == 4000) {
                throw new UnsupportedOperationException();
            }
            unread.add(b);
            return unread.size();
        }

        int pass() {
            if (unread.size() + coded.size() > 4000) {
                throw new UnsupportedOperationException();
            }
            unread.addAll(coded);
            return unread.size();
        }

        int poke(int i, int mask) {
            refuse(i < 0 || i >= unread.size());
            refuseNumber(mask < 0 || mask > 255);
            unread.set(i, unread.get(i) ^ mask);
            return unread.get(i);
        }

        /** Where tiles begin in what is to be read, as far as their lengths tell. */
        List<Integer> heads() {
            List<Integer> heads = new ArrayList<>();
            int head = 0;
            while (head < unread.size()) {
                heads.add(head);
                int follow = head + 2 < unread.size() ? unread.get(head + 1) + 256 * unread.get(head + 2) : 0;
                head += 4 + follow;
            }
            return heads;
        }

        int decode() {
            List<Integer> rest = unread;
            unread = new ArrayList<>();
            for (int tile = 0; tile < tiles(); tile++) {
                if (rest.size() < 4) {
                    return -1 - tile;
                }
                int follow = rest.get(1) + 256 * rest.get(2);
                if (rest.size() < 4 + follow) {
                    return -1 - tile;
                }
                List<Integer> bytes = rest.subList(4, 4 + follow);
                if (rest.get(0) > 1 || rest.get(3) != sum(bytes) || !read(rest.get(0), bytes, placesOf(tile))) {
                    return -1 - tile;
                }
                rest = rest.subList(4 + follow, rest.size());
            }
            return width * height * channels;
        }

        private boolean read(int kind, List<Integer> bytes, List<int[]> places) {
            if (kind == 1) {
                new Learnt(this).read(places, bytes);
                return true;
            }
            if (bytes.size() != places.size() || bytes.stream().anyMatch(b -> b > greatest())) {
                return false;
            }
            for (int i = 0; i < places.size(); i++) {
                put(places.get(i)[0], places.get(i)[1], places.get(i)[2], bytes.get(i));
            }
            return true;
        }

        int told(int what) {
            int[] numbers = {tiles(), coded.size(), unread.size(), width, height, bits, channels};
            return what < 0 || what > 6 ? -1 : numbers[what];
        }

        void clear() {
            coded = new ArrayList<>();
            unread = new ArrayList<>();
            plain = new ArrayList<>();
            samples = new HashMap<>();
            learnt = new Learnt(this);
        }
    }

    /** What is learnt in one tile, and its interval, in whole numbers without an end. */
    private static final class Learnt {
        private static final BigInteger TOP = BigInteger.ONE.shiftLeft(32);

        final int[] weights = new int[9];
        final int[] shares = {32, 32, 32};
        private final int[] lastFolded = new int[3];
        private final Map<String, Integer> chances = new HashMap<>();
        private final Reference picture;
        private BigInteger low = BigInteger.ZERO;
        private BigInteger high = TOP.subtract(BigInteger.ONE);

        Learnt(Reference picture) {
            this.picture = picture;
            Arrays.fill(weights, 256);
        }

        int chance(boolean first, int channel, int kind, int node) {
            return chances.getOrDefault(first + "," + channel + "," + kind + "," + node, 32768);
        }

        private int mixed(int[] place) {
            int product = 0;
            int sum = 0;
            for (int way = 0; way < 9; way++) {
                product += weights[way] * picture.predicted(place[0], place[1], place[2], way);
                sum += weights[way];
            }
            return (product + sum / 2) / sum;
        }

        private void learnSample(int[] place, int mixed) {
            int side = Integer.signum(picture.at(place[0], place[1], place[2]) - mixed);
            for (int way = 0; way < 9; way++) {
                int other = Integer.signum(picture.predicted(place[0], place[1], place[2], way) - mixed);
                weights[way] = Math.max(8, Math.min(1024, weights[way] + 8 * side * other));
            }
        }

        private int mixedChance(int channel, int texture, int past, int node) {
            int one = chance(true, channel, texture, node);
            int two = chance(false, channel, past, node);
            return Math.max(64, Math.min(65472, (one * shares[channel] + two * (64 - shares[channel])) / 64));
        }

        private void learnBit(int channel, int texture, int past, int node, int bit) {
            int one = chance(true, channel, texture, node);
            int two = chance(false, channel, past, node);
            int nearer = Integer.signum(Math.abs(65536 * bit - two) - Math.abs(65536 * bit - one));
            shares[channel] = Math.max(1, Math.min(63, shares[channel] + nearer));
            one += bit == 1 ? (65535 - one) / 16 : -(one / 16);
            two += bit == 1 ? (65535 - two) / 32 : -(two / 32);
            chances.put(true + "," + channel + "," + texture + "," + node, one);
            chances.put(false + "," + channel + "," + past + "," + node, two);
        }

        private BigInteger split(int chance) {
            return low.add(high.subtract(low).multiply(BigInteger.valueOf(chance)).divide(BigInteger.valueOf(65536)));
        }

        private void narrow(BigInteger split, int bit) {
            if (bit == 1) {
                high = split;
            } else {
                low = split.add(BigInteger.ONE);
            }
        }

        private boolean sameHighest() {
            return low.shiftRight(24).equals(high.shiftRight(24));
        }

        private void shift() {
            low = low.shiftLeft(8).mod(TOP);
            high = high.shiftLeft(8).mod(TOP).add(BigInteger.valueOf(255));
        }

        void write(List<int[]> places, List<Integer> out) {
            for (int[] place : places) {
                int channel = place[2];
                int texture = picture.texture(place[0], place[1], channel);
                int past = Math.min(3, lastFolded[channel] / 2);
                int mixed = mixed(place);
                int missed = Math.floorMod(picture.at(place[0], place[1], channel) - mixed, 1 << picture.bits);
                int folded = missed < picture.mid() ? 2 * missed : 2 * ((1 << picture.bits) - missed) - 1;
                int node = 1;
                for (int i = 1; i <= picture.bits; i++) {
                    int bit = folded >> (picture.bits - i) & 1;
                    narrow(split(mixedChance(channel, texture, past, node)), bit);
                    while (sameHighest()) {
                        out.add(low.shiftRight(24).intValue());
                        shift();
                    }
                    learnBit(channel, texture, past, node, bit);
                    node = 2 * node + bit;
                }
                lastFolded[channel] = folded;
                learnSample(place, mixed);
            }
            BigInteger last = low.add(BigInteger.valueOf(65535)).mod(TOP);
            out.add(last.shiftRight(24).intValue());
            out.add(last.shiftRight(16).intValue() % 256);
        }

        void read(List<int[]> places, List<Integer> in) {
            BigInteger value = BigInteger.ZERO;
            int next = 0;
            while (next < 4) {
                value = value.shiftLeft(8).add(BigInteger.valueOf(next < in.size() ? in.get(next) : 0));
                next++;
            }
            for (int[] place : places) {
                int channel = place[2];
                int texture = picture.texture(place[0], place[1], channel);
                int past = Math.min(3, lastFolded[channel] / 2);
                int mixed = mixed(place);
                int node = 1;
                int folded = 0;
                for (int i = 1; i <= picture.bits; i++) {
                    BigInteger split = split(mixedChance(channel, texture, past, node));
                    int bit = value.compareTo(split) <= 0 ? 1 : 0;
                    narrow(split, bit);
                    while (sameHighest()) {
                        shift();
                        int come = next < in.size() ? in.get(next) : 0;
                        value = value.shiftLeft(8).mod(TOP).add(BigInteger.valueOf(come));
                        next++;
                    }
                    learnBit(channel, texture, past, node, bit);
                    node = 2 * node + bit;
                    folded = 2 * folded + bit;
                }
                lastFolded[channel] = folded;
                int missed = folded % 2 == 0 ? folded / 2 : (1 << picture.bits) - (folded + 1) / 2;
                picture.put(place[0], place[1], channel, Math.floorMod(mixed + missed, 1 << picture.bits));
                learnSample(place, mixed);
            }
        }
    }
}
