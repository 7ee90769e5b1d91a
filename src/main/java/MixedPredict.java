import java.util.Arrays;

/** Pictures in tiles, each told by itself: see README.md, and the document for every promise. */
public final class MixedPredict {
    public static final int NONE = -1;

    private static final int LONGEST_SIDE = 16;
    private static final int MOST_BITS = 8;
    private static final int MOST_CHANNELS = 3;
    private static final int MOST_UNREAD = 4000;

    private static final int TILE_SIDE = 8;
    private static final int MOST_TILES = 4;
    private static final int MOST_IN_TILE = TILE_SIDE * TILE_SIDE * MOST_CHANNELS;

    private static final int HEAD = 4;
    private static final int AS_IT_IS = 0;
    private static final int BY_INTERVAL = 1;
    private static final int SUM_BEGIN = 165;

    private static final int WAYS = 9;
    private static final int CLASSES = 4;

    private final Picture picture;
    private final Around around;
    // Apart, because what was learnt by the latest encode() is asked for even behind a decode().
    private final Teller encodeTeller;
    private final Teller decodeTeller;
    private final Bytes tileBytes = new Bytes(MOST_IN_TILE);
    private final Bytes coded = new Bytes(MOST_TILES * (HEAD + MOST_IN_TILE));
    private final Bytes unread = new Bytes(MOST_UNREAD);
    private final Writer writer = new Writer(tileBytes);
    private final Reader reader = new Reader(unread);
    private final Row plainTiles = new Row(MOST_TILES);

    public MixedPredict(int width, int height, int bits, int channels) {
        picture = new Picture(brought(width, 1, LONGEST_SIDE), brought(height, 1, LONGEST_SIDE),
                brought(bits, 1, MOST_BITS), brought(channels, 1, MOST_CHANNELS));
        around = new Around(picture);
        encodeTeller = new Teller(picture);
        decodeTeller = new Teller(picture);
    }

    public boolean put(int x, int y, int channel, int v) throws IndexOutOfBoundsException, IllegalArgumentException {
        if (!picture.has(x, y, channel)) {
            throw new IndexOutOfBoundsException("no such sample");
        }
        if (v < 0 || v > picture.greatest) {
            throw new IllegalArgumentException("no such number of a sample");
        }
        return picture.change(x, y, channel, v);
    }

    public int paint(int v, int step) {
        int others = 0;
        int next = v;
        for (int y = 0; y < picture.height; y++) {
            for (int x = 0; x < picture.width; x++) {
                for (int channel = 0; channel < picture.channels; channel++) {
                    if (picture.change(x, y, channel, next & picture.greatest)) {
                        others++;
                    }
                    next += step;
                }
            }
        }
        return others;
    }

    public int at(int x, int y, int channel) throws IndexOutOfBoundsException {
        if (!picture.has(x, y, channel)) {
            throw new IndexOutOfBoundsException("no such sample");
        }
        return picture.sample(x, y, channel);
    }

    public int predicted(int x, int y, int channel, int way) throws IndexOutOfBoundsException {
        if (!picture.has(x, y, channel)) {
            throw new IndexOutOfBoundsException("no such sample");
        }
        if (way < 0 || way >= WAYS) {
            throw new IndexOutOfBoundsException("no such way");
        }
        around.look(x, y, channel);
        return around.expected(way);
    }

    public int encode() {
        coded.forget();
        for (int tile = 0; tile < picture.tiles(); tile++) {
            writer.begin();
            encodeTeller.tell(writer, picture.left(tile), picture.top(tile));
            writer.end();
            putOut(tile);
        }
        return coded.count();
    }

    public int byteAt(int i) throws IndexOutOfBoundsException {
        if (!coded.has(i)) {
            throw new IndexOutOfBoundsException("no such coded byte");
        }
        return coded.get(i);
    }

    public boolean plain(int tile) throws IndexOutOfBoundsException {
        if (tile < 0 || tile >= picture.tiles()) {
            throw new IndexOutOfBoundsException("no such tile");
        }
        return plainTiles.get(tile) == 1;
    }

    public int weight(int way) throws IndexOutOfBoundsException {
        if (way < 0 || way >= WAYS) {
            throw new IndexOutOfBoundsException("no such way");
        }
        return encodeTeller.weights.get(way);
    }

    public int chance(boolean first, int channel, int kind, int node)
            throws IndexOutOfBoundsException, IllegalArgumentException {
        if (!picture.hasChannel(channel)) {
            throw new IndexOutOfBoundsException("no such channel");
        }
        if (kind < 0 || kind >= CLASSES) {
            throw new IllegalArgumentException("no such class");
        }
        if (node < 1 || node > picture.greatest) {
            throw new IllegalArgumentException("no such node");
        }
        Chances chances = encodeTeller.chances;
        int place = chances.place(channel, kind, node);
        return first ? chances.first.get(place) : chances.second.get(place);
    }

    public int share(int channel) throws IndexOutOfBoundsException {
        if (!picture.hasChannel(channel)) {
            throw new IndexOutOfBoundsException("no such channel");
        }
        return encodeTeller.chances.shares.get(channel);
    }

    public int feed(int b) throws IllegalArgumentException, UnsupportedOperationException {
        if (b < 0 || b > 255) {
            throw new IllegalArgumentException("no byte");
        }
        if (unread.count() >= MOST_UNREAD) {
            throw new UnsupportedOperationException("too many bytes to be read");
        }
        unread.add(b);
        return unread.count();
    }

    public int pass() throws UnsupportedOperationException {
        if (unread.count() + coded.count() > MOST_UNREAD) {
            throw new UnsupportedOperationException("too many bytes to be read");
        }
        unread.addAll(coded);
        return unread.count();
    }

    public int poke(int i, int mask) throws IndexOutOfBoundsException, IllegalArgumentException {
        if (!unread.has(i)) {
            throw new IndexOutOfBoundsException("no such byte to be read");
        }
        if (mask < 0 || mask > 255) {
            throw new IllegalArgumentException("no mask of a byte");
        }
        unread.set(i, unread.get(i) ^ mask);
        return unread.get(i);
    }

    public int decode() {
        int from = 0;
        int result = picture.count();
        for (int tile = 0; tile < picture.tiles(); tile++) {
            if (!isGood(tile, from)) {
                result = -1 - tile;
                break;
            }
            int to = from + HEAD + following(from);
            if (unread.get(from) == AS_IT_IS) {
                takeAsItIs(tile, from + HEAD);
            } else {
                reader.begin(from + HEAD, to);
                decodeTeller.tell(reader, picture.left(tile), picture.top(tile));
            }
            from = to;
        }
        unread.forget();
        return result;
    }

    public int told(int what) {
        switch (what) {
            case 0: return picture.tiles();
            case 1: return coded.count();
            case 2: return unread.count();
            case 3: return picture.width;
            case 4: return picture.height;
            case 5: return picture.bits;
            case 6: return picture.channels;
            default: return NONE;
        }
    }

    public void clear() {
        picture.blacken();
        coded.forget();
        unread.forget();
        plainTiles.fill(0);
        encodeTeller.begin();
    }

    private void putOut(int tile) {
        boolean asItIs = tileBytes.count() >= picture.countIn(tile);
        if (asItIs) {
            tileBytes.forget();
            spell(tile);
        }
        plainTiles.set(tile, asItIs ? 1 : 0);
        coded.add(asItIs ? AS_IT_IS : BY_INTERVAL);
        coded.add(tileBytes.count() & 255);
        coded.add(tileBytes.count() >> 8);
        coded.add(sum(tileBytes, 0, tileBytes.count()));
        coded.addAll(tileBytes);
    }

    private void spell(int tile) {
        for (int y = picture.top(tile); y < picture.bottom(tile); y++) {
            for (int x = picture.left(tile); x < picture.right(tile); x++) {
                for (int channel = 0; channel < picture.channels; channel++) {
                    tileBytes.add(picture.sample(x, y, channel));
                }
            }
        }
    }

    // What lacks of the head reads as 0, and then the tile's end lies behind the last byte.
    private boolean isGood(int tile, int from) {
        int kind = unread.get(from);
        int follow = following(from);
        int to = from + HEAD + follow;
        if (to > unread.count() || unread.get(from + 3) != sum(unread, from + HEAD, follow)) {
            return false;
        }
        if (kind == AS_IT_IS) {
            return follow == picture.countIn(tile) && noneTooGreat(from + HEAD, to);
        }
        return kind == BY_INTERVAL;
    }

    private boolean noneTooGreat(int from, int to) {
        for (int i = from; i < to; i++) {
            if (unread.get(i) > picture.greatest) {
                return false;
            }
        }
        return true;
    }

    private void takeAsItIs(int tile, int from) {
        int next = from;
        for (int y = picture.top(tile); y < picture.bottom(tile); y++) {
            for (int x = picture.left(tile); x < picture.right(tile); x++) {
                for (int channel = 0; channel < picture.channels; channel++) {
                    picture.change(x, y, channel, unread.get(next));
                    next++;
                }
            }
        }
    }

    private int following(int from) {
        return unread.get(from + 1) + 256 * unread.get(from + 2);
    }

    private static int sum(Bytes bytes, int from, int follow) {
        int sum = SUM_BEGIN ^ (follow & 255) ^ (follow >> 8);
        for (int i = 0; i < follow; i++) {
            sum ^= bytes.get(from + i);
        }
        return sum;
    }

    private static int brought(int v, int least, int most) {
        return v < least ? least : v > most ? most : v;
    }

    /** Numbers in a row: what is not in it reads as 0 and cannot be set. */
    private static final class Row {
        private final int[] numbers;

        Row(int length) {
            numbers = new int[Math.max(0, length)];
        }

        int get(int i) {
            return i >= 0 && i < numbers.length ? numbers[i] : 0;
        }

        void set(int i, int v) {
            if (i >= 0 && i < numbers.length) {
                numbers[i] = v;
            }
        }

        void fill(int v) {
            Arrays.fill(numbers, v);
        }
    }

    /** Bytes one behind another, up to a limit: what comes behind that is dropped. */
    private static final class Bytes {
        private final int[] row;
        private int count;

        Bytes(int limit) {
            row = new int[Math.max(0, limit)];
        }

        int count() {
            return count;
        }

        boolean has(int i) {
            return i >= 0 && i < count;
        }

        int get(int i) {
            return i >= 0 && i < count && i < row.length ? row[i] : 0;
        }

        void set(int i, int b) {
            if (i >= 0 && i < count && i < row.length) {
                row[i] = b;
            }
        }

        void add(int b) {
            if (count >= 0 && count < row.length) {
                row[count] = b;
                count++;
            }
        }

        void addAll(Bytes others) {
            for (int i = 0; i < others.count; i++) {
                add(others.get(i));
            }
        }

        void forget() {
            count = 0;
        }
    }

    /** The samples, and how the tiles lie over them. */
    private static final class Picture {
        final int width;
        final int height;
        final int bits;
        final int channels;
        final int greatest;
        final int mid;
        private final int tilesAcross;
        private final Row samples;

        Picture(int width, int height, int bits, int channels) {
            this.width = width;
            this.height = height;
            this.bits = bits;
            this.channels = channels;
            greatest = (1 << bits) - 1;
            mid = 1 << (bits - 1);
            tilesAcross = Math.max(1, (width + TILE_SIDE - 1) / TILE_SIDE);
            samples = new Row(width * height * channels);
        }

        int count() {
            return width * height * channels;
        }

        boolean hasChannel(int channel) {
            return channel >= 0 && channel < channels;
        }

        boolean has(int x, int y, int channel) {
            return x >= 0 && x < width && y >= 0 && y < height && hasChannel(channel);
        }

        int sample(int x, int y, int channel) {
            return samples.get((y * width + x) * channels + channel);
        }

        boolean change(int x, int y, int channel, int v) {
            boolean other = sample(x, y, channel) != v;
            samples.set((y * width + x) * channels + channel, v);
            return other;
        }

        void blacken() {
            samples.fill(0);
        }

        int inRange(int v) {
            return brought(v, 0, greatest);
        }

        int tiles() {
            return tilesAcross * ((height + TILE_SIDE - 1) / TILE_SIDE);
        }

        int left(int tile) {
            return tilesAcross > 0 ? tile % tilesAcross * TILE_SIDE : 0;
        }

        int top(int tile) {
            return tilesAcross > 0 ? tile / tilesAcross * TILE_SIDE : 0;
        }

        int right(int tile) {
            return Math.min(width, left(tile) + TILE_SIDE);
        }

        int bottom(int tile) {
            return Math.min(height, top(tile) + TILE_SIDE);
        }

        int countIn(int tile) {
            return (right(tile) - left(tile)) * (bottom(tile) - top(tile)) * channels;
        }
    }

    /** What stands around one sample, in its tile. */
    private static final class Around {
        private final Picture picture;
        private int a;
        private int b;
        private int c;
        private int d;
        private int before;

        Around(Picture picture) {
            this.picture = picture;
        }

        void look(int x, int y, int channel) {
            boolean leftIn = x % TILE_SIDE > 0;
            boolean aboveIn = y % TILE_SIDE > 0;
            boolean rightIn = x % TILE_SIDE < TILE_SIDE - 1 && x + 1 < picture.width;
            a = leftIn ? picture.sample(x - 1, y, channel) : picture.mid;
            b = aboveIn ? picture.sample(x, y - 1, channel) : picture.mid;
            c = leftIn && aboveIn ? picture.sample(x - 1, y - 1, channel) : picture.mid;
            d = rightIn && aboveIn ? picture.sample(x + 1, y - 1, channel) : picture.mid;
            before = channel > 0 ? picture.sample(x, y, channel - 1) : picture.mid;
        }

        // Halves by shift: they go downward below 0 too.
        int expected(int way) {
            switch (way) {
                case 0: return a;
                case 1: return b;
                case 2: return c;
                case 3: return d;
                case 4: return picture.inRange(a + b - c);
                case 5: return (a + b) >> 1;
                case 6: return picture.inRange(a + ((b - c) >> 1));
                case 7: return picture.inRange(b + ((a - c) >> 1));
                default: return before;
            }
        }

        int texture() {
            return Math.min(CLASSES - 1, (Math.abs(a - c) + Math.abs(b - c)) / 4);
        }
    }

    /** How much each way counts, and what the ways together let expect. */
    private static final class Weights {
        private static final int AT_FIRST = 256;
        private static final int STEP = 8;
        private static final int LEAST = 8;
        private static final int MOST = 1024;

        private final Row weights = new Row(WAYS);
        private final Row expected = new Row(WAYS);

        void begin() {
            weights.fill(AT_FIRST);
        }

        int get(int way) {
            return weights.get(way);
        }

        int mix(Around around) {
            int sum = 0;
            int product = 0;
            for (int way = 0; way < WAYS; way++) {
                int number = around.expected(way);
                expected.set(way, number);
                sum += weights.get(way);
                product += weights.get(way) * number;
            }
            return sum > 0 ? (product + sum / 2) / sum : 0;
        }

        void learn(int mixed, int sample) {
            if (sample == mixed) {
                return;
            }
            for (int way = 0; way < WAYS; way++) {
                int number = expected.get(way);
                if (number != mixed) {
                    boolean sameSide = (number > mixed) == (sample > mixed);
                    weights.set(way, brought(weights.get(way) + (sameSide ? STEP : -STEP), LEAST, MOST));
                }
            }
        }
    }

    /** The two chances of each bit, and the share of the first one by channel. */
    private static final class Chances {
        private static final int AT_FIRST = 32768;
        private static final int MOST = 65535;
        private static final int LEAST_MIXED = 64;
        private static final int MOST_MIXED = 65472;
        private static final int SHARE_AT_FIRST = 32;
        private static final int SHARES = 64;

        final Row first;
        final Row second;
        final Row shares;
        private final int bits;

        Chances(int bits, int channels) {
            this.bits = bits;
            first = new Row((channels * CLASSES) << bits);
            second = new Row((channels * CLASSES) << bits);
            shares = new Row(channels);
        }

        void begin() {
            first.fill(AT_FIRST);
            second.fill(AT_FIRST);
            shares.fill(SHARE_AT_FIRST);
        }

        int place(int channel, int kind, int node) {
            return ((channel * CLASSES + kind) << bits) + node;
        }

        int mix(int channel, int firstPlace, int secondPlace) {
            int share = shares.get(channel);
            int mixed = (first.get(firstPlace) * share + second.get(secondPlace) * (SHARES - share)) / SHARES;
            return brought(mixed, LEAST_MIXED, MOST_MIXED);
        }

        void learn(int channel, int firstPlace, int secondPlace, int bit) {
            int one = first.get(firstPlace);
            int two = second.get(secondPlace);
            if (one != two) {
                boolean firstIsNearer = (one > two) == (bit == 1);
                shares.set(channel, brought(shares.get(channel) + (firstIsNearer ? 1 : -1), 1, SHARES - 1));
            }
            first.set(firstPlace, bit == 1 ? one + (MOST - one) / 16 : one - one / 16);
            second.set(secondPlace, bit == 1 ? two + (MOST - two) / 32 : two - two / 32);
        }
    }

    /** The interval that is narrowed bit by bit: whose bits they are, those who extend it say. */
    private abstract static class Interval {
        static final long ALL = 0xFFFFFFFFL;
        static final int BYTES = 4;

        long low;
        private long high;

        void open() {
            low = 0;
            high = ALL;
        }

        int narrow(int chance, int wanted) {
            long split = low + (high - low) * chance / 65536;
            int bit = choose(split, wanted);
            if (bit == 1) {
                high = split;
            } else {
                low = split + 1;
            }
            for (int i = 0; i < BYTES && (low >> 24) == (high >> 24); i++) {
                leave((int) (low >> 24));
                low = (low << 8) & ALL;
                high = ((high << 8) & ALL) | 255;
            }
            return bit;
        }

        abstract int choose(long split, int wanted);

        abstract void leave(int highest);
    }

    /** Puts out what tells the bits that are wanted. */
    private static final class Writer extends Interval {
        private final Bytes out;

        Writer(Bytes out) {
            this.out = out;
        }

        void begin() {
            out.forget();
            open();
        }

        int choose(long split, int wanted) {
            return wanted;
        }

        // More than the room of out need not be kept: then the tile is told as it is.
        void leave(int highest) {
            out.add(highest);
        }

        void end() {
            long last = (low + 65535) & ALL;
            out.add((int) (last >> 24));
            out.add((int) ((last >> 16) & 255));
        }
    }

    /** Reads the bits out of bytes, and 0 behind them: for each byte that leaves the interval one is taken. */
    private static final class Reader extends Interval {
        private final Bytes in;
        private int next;
        private int end;
        private long value;

        Reader(Bytes in) {
            this.in = in;
        }

        void begin(int from, int to) {
            open();
            next = from;
            end = to;
            value = 0;
            for (int i = 0; i < BYTES; i++) {
                leave(0);
            }
        }

        int choose(long split, int wanted) {
            return value <= split ? 1 : 0;
        }

        void leave(int highest) {
            value = ((value << 8) & ALL) | (next < end ? in.get(next) : 0);
            next++;
        }
    }

    /** Goes through the samples of a tile, and learns from each, the same way for writing and reading. */
    private static final class Teller {
        final Weights weights = new Weights();
        final Chances chances;
        private final Picture picture;
        private final Around around;
        private final Row pasts;

        Teller(Picture picture) {
            this.picture = picture;
            around = new Around(picture);
            chances = new Chances(picture.bits, picture.channels);
            pasts = new Row(picture.channels);
            begin();
        }

        void begin() {
            weights.begin();
            chances.begin();
            pasts.fill(0);
        }

        void tell(Interval interval, int left, int top) {
            begin();
            for (int y = top; y < top + TILE_SIDE && y < picture.height; y++) {
                for (int x = left; x < left + TILE_SIDE && x < picture.width; x++) {
                    for (int channel = 0; channel < picture.channels; channel++) {
                        tellSample(interval, x, y, channel);
                    }
                }
            }
        }

        // A reader passes over what is wanted, so the sample that stands there before reading does not count.
        private void tellSample(Interval interval, int x, int y, int channel) {
            around.look(x, y, channel);
            int mixed = weights.mix(around);
            int wanted = fold((picture.sample(x, y, channel) - mixed) & picture.greatest);
            int folded = tellFolded(interval, channel, wanted);
            int sample = (mixed + unfold(folded)) & picture.greatest;
            pasts.set(channel, Math.min(CLASSES - 1, folded / 2));
            weights.learn(mixed, sample);
            picture.change(x, y, channel, sample);
        }

        private int tellFolded(Interval interval, int channel, int wanted) {
            int texture = around.texture();
            int past = pasts.get(channel);
            int node = 1;
            for (int i = picture.bits - 1; i >= 0; i--) {
                int firstPlace = chances.place(channel, texture, node);
                int secondPlace = chances.place(channel, past, node);
                int bit = interval.narrow(chances.mix(channel, firstPlace, secondPlace), (wanted >> i) & 1);
                chances.learn(channel, firstPlace, secondPlace, bit);
                node = 2 * node + bit;
            }
            return node - (1 << picture.bits);
        }

        private int fold(int missed) {
            return missed < picture.mid ? 2 * missed : 2 * (picture.greatest + 1 - missed) - 1;
        }

        private int unfold(int folded) {
            return (folded & 1) == 0 ? folded / 2 : picture.greatest + 1 - (folded + 1) / 2;
        }
    }
}
