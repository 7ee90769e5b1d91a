import java.util.Arrays;

/** The document's "What it is", face and "Terms": for each sentence that names an edge, a test of its own. */
public final class TermsTest extends Check {
    private static final int MOST_CALLS = 512;

    public static void main(String[] args) {
        mostCalls();
        none();
        sides();
        bits();
        channels();
        tooSmall();
        tooLarge();
        samplesOfBits();
        samplesAtFirst();
        mid();
        tilesOfEight();
        tilesLessAtEdges();
        tilesRowByRow();
        orderInATile();
        divisionsDownward();
        noneToTheLeft();
        noneAbove();
        noneAboveTheLeft();
        noneAboveToTheRight();
        neighboursOfItsChannel();
        broughtToSamples();
        noChannelBefore();
        weightsBegin();
        mixedIsRounded();
        weightsBySides();
        weightsMost();
        weightsLeast();
        missedIsARest();
        foldedAtMid();
        bitsAndNodes();
        chancesBegin();
        textures();
        texturesTogether();
        pasts();
        pastOfTheFirst();
        sharesBegin();
        chanceOfABit();
        shareByTheNearer();
        shareMost();
        shareLeast();
        chancesForOne();
        chancesForZero();
        intervalBegins();
        highIsSplit();
        lowIsBehindSplit();
        bytesPutOut();
        lastTwoBytes();
        tileByInterval();
        tileAsItIs();
        lackingBytes();
        end("TermsTest");
    }

    private static void mostCalls() {
        sentence("An object is used for at most 512 calls after it has been made");
        MixedPredict x = new MixedPredict(16, 16, 8, 3);
        for (int i = 1; i < MOST_CALLS - 2; i += 3) {
            int step = i;
            due("call " + i, x.paint(i, step) > 0, true);
            int coded = x.encode();
            due("call " + (i + 2), x.told(1), coded);
        }
        due("calls 511 and 512", x.pass(), x.told(1));
        MixedPredict y = new MixedPredict(1, 1, 8, 1);
        for (int i = 1; i < MOST_CALLS; i++) {
            due("call " + i, y.feed(i & 255), i);
        }
        due("call 512", y.feed(7), MOST_CALLS);
    }

    private static void none() {
        sentence("public static final int NONE = -1");
        due("NONE", MixedPredict.NONE, -1);
    }

    private static void sides() {
        sentence("a WIDTH and a HEIGHT, 1 .. 16 each");
        for (int side = 1; side <= 16; side++) {
            MixedPredict wide = new MixedPredict(side, 3, 8, 1);
            MixedPredict high = new MixedPredict(3, side, 8, 1);
            int last = side;
            due("width", wide.told(3), side);
            due("height", high.told(4), side);
            due("last column", answer(() -> wide.at(last - 1, 0, 0)), 0);
            due("no further column", answer(() -> wide.at(last, 0, 0)), INDEX);
            due("last row", answer(() -> high.at(0, last - 1, 0)), 0);
            due("no further row", answer(() -> high.at(0, last, 0)), INDEX);
        }
    }

    private static void bits() {
        sentence("BITS, 1 .. 8");
        for (int bits = 1; bits <= 8; bits++) {
            due("bits", new MixedPredict(1, 1, bits, 1).told(5), bits);
        }
    }

    private static void channels() {
        sentence("CHANNELS, 1 .. 3");
        for (int channels = 1; channels <= 3; channels++) {
            MixedPredict x = new MixedPredict(1, 1, 1, channels);
            int last = channels;
            due("channels", x.told(6), channels);
            due("last channel", answer(() -> x.at(0, 0, last - 1)), 0);
            due("no further channel", answer(() -> x.at(0, 0, last)), INDEX);
        }
    }

    private static void tooSmall() {
        sentence("(other numbers count as the nearest of these)");
        for (int v : new int[] {0, -1, -16, Integer.MIN_VALUE}) {
            sizes(new MixedPredict(v, 5, 6, 2), 1, 5, 6, 2);
            sizes(new MixedPredict(4, v, 6, 2), 4, 1, 6, 2);
            sizes(new MixedPredict(4, 5, v, 2), 4, 5, 1, 2);
            sizes(new MixedPredict(4, 5, 6, v), 4, 5, 6, 1);
        }
    }

    private static void tooLarge() {
        sentence("(other numbers count as the nearest of these)");
        for (int more : new int[] {1, 16, 240, Integer.MAX_VALUE - 16}) {
            sizes(new MixedPredict(16 + more, 5, 6, 2), 16, 5, 6, 2);
            sizes(new MixedPredict(4, 16 + more, 6, 2), 4, 16, 6, 2);
            sizes(new MixedPredict(4, 5, 8 + more, 2), 4, 5, 8, 2);
            sizes(new MixedPredict(4, 5, 6, 3 + more), 4, 5, 6, 3);
        }
    }

    private static void sizes(MixedPredict x, int width, int height, int bits, int channels) {
        due("width", x.told(3), width);
        due("height", x.told(4), height);
        due("bits", x.told(5), bits);
        due("channels", x.told(6), channels);
        due("the last sample", answer(() -> x.put(width - 1, height - 1, channels - 1, (1 << bits) - 1)), true);
        due("a greater sample", answer(() -> x.put(0, 0, 0, 1 << bits)), ARGUMENT);
    }

    private static void samplesOfBits() {
        sentence("SAMPLES are 0 .. 2^bits - 1");
        for (int bits = 1; bits <= 8; bits++) {
            MixedPredict x = new MixedPredict(1, 1, bits, 1);
            int greatest = (1 << bits) - 1;
            due("the greatest", answer(() -> x.put(0, 0, 0, greatest)), true);
            due("it is there", x.at(0, 0, 0), greatest);
            due("one more", answer(() -> x.put(0, 0, 0, greatest + 1)), ARGUMENT);
            due("the least", answer(() -> x.put(0, 0, 0, 0)), true);
            due("one less", answer(() -> x.put(0, 0, 0, -1)), ARGUMENT);
        }
    }

    private static void samplesAtFirst() {
        sentence("at first 0");
        MixedPredict x = new MixedPredict(13, 13, 8, 3);
        for (int i = 0; i < 13 * 13 * 3; i++) {
            due("sample " + i, x.at(i / 3 % 13, i / 39, i % 3), 0);
        }
    }

    private static void mid() {
        sentence("MID is 2^(bits - 1)");
        int[] mids = {1, 2, 4, 8, 16, 32, 64, 128};
        for (int bits = 1; bits <= 8; bits++) {
            due("of " + bits + " bits", new MixedPredict(1, 1, bits, 1).predicted(0, 0, 0, 0), mids[bits - 1]);
        }
    }

    private static void tilesOfEight() {
        sentence("TILES are pieces of 8 by 8 places");
        int[][] tiles = {{1, 1, 1}, {8, 8, 1}, {9, 8, 2}, {8, 9, 2}, {9, 9, 4}, {16, 8, 2}, {8, 16, 2}, {16, 16, 4}};
        for (int[] t : tiles) {
            due("of " + t[0] + " by " + t[1], new MixedPredict(t[0], t[1], 8, 1).told(0), t[2]);
        }
        int[] samples = new int[128];
        for (int i = 0; i < 64; i++) {
            samples[i] = i / 5;
            samples[64 + i] = 15 - i / 7;
        }
        MixedPredict lower = picture(8, 16, 4, 1, samples);
        MixedPredict upperAlone = picture(8, 8, 4, 1, Arrays.copyOf(samples, 64));
        MixedPredict lowerAlone = picture(8, 8, 4, 1, Arrays.copyOfRange(samples, 64, 128));
        int first = upperAlone.encode();
        due("both are by interval", lower.encode(), first + lowerAlone.encode());
        for (int i = 0; i < lower.told(1); i++) {
            int want = i < first ? upperAlone.byteAt(i) : lowerAlone.byteAt(i - first);
            due("as if each were alone, byte " + i, lower.byteAt(i), want);
        }
        due("neither is as it is", lower.plain(0) || lower.plain(1), false);
        readAgain(lower, samples);
    }

    /** All four tiles as they are: 64, 8, 8 and 1 samples. */
    private static MixedPredict nineByNine() {
        MixedPredict x = new MixedPredict(9, 9, 8, 1);
        for (int i = 0; i < 64; i++) {
            x.put(i % 8, i / 8, 0, i * i * 37 & 255);
        }
        for (int i = 0; i < 17; i++) {
            x.put(i < 9 ? 8 : i - 9, i < 9 ? i : 8, 0, 200 - 2 * i);
        }
        x.encode();
        return x;
    }

    private static void tilesLessAtEdges() {
        sentence("less at the right and the lower edge");
        MixedPredict x = nineByNine();
        due("bytes", x.told(1), 68 + 12 + 12 + 5);
        due("the first one's", x.byteAt(1), 64);
        due("the right one's", x.byteAt(69), 8);
        due("the lower one's", x.byteAt(81), 8);
        due("the corner's", x.byteAt(93), 1);
    }

    private static void tilesRowByRow() {
        sentence("0, 1, .. row by row");
        MixedPredict x = nineByNine();
        due("tile 0 begins with the first place", x.byteAt(4), 0);
        for (int i = 0; i < 8; i++) {
            due("tile 1 is to the right", x.byteAt(72 + i), 200 - 2 * i);
            due("tile 2 is below", x.byteAt(84 + i), 200 - 2 * (9 + i));
        }
        due("tile 3 is the corner", x.byteAt(96), 200 - 2 * 8);
    }

    private static void orderInATile() {
        sentence("In a tile samples go row by row, place by place, of a place channel by channel");
        MixedPredict x = picture(2, 2, 8, 3, 3, 170, 90, 250, 11, 130, 60, 222, 40, 180, 5, 100);
        x.encode();
        codedTile("in the order of places, then channels", x, 0, 3, 170, 90, 250, 11, 130, 60, 222, 40, 180, 5, 100);
        x.pass();
        x.clear();
        feedTile(x, 0, 1, 2, 3, 4, 5, 6, 7, 8, 9, 10, 11, 12);
        due("they are read", x.decode(), 12);
        samples("in the same order", x, 1, 2, 3, 4, 5, 6, 7, 8, 9, 10, 11, 12);
    }

    private static void divisionsDownward() {
        sentence("All divisions are downward");
        due("(3 + 4) / 2", around(3, 4, 4).predicted(1, 1, 0, 5), 3);
        due("9 + (4 - 7) / 2", around(9, 4, 7).predicted(1, 1, 0, 6), 7);
        due("9 + (7 - 4) / 2", around(9, 7, 4).predicted(1, 1, 0, 6), 10);
        due("9 + (4 - 7) / 2, of b", around(4, 9, 7).predicted(1, 1, 0, 7), 7);
        due("9 + (7 - 4) / 2, of b", around(7, 9, 4).predicted(1, 1, 0, 7), 10);
        due("9 + (6 - 7) / 2", around(9, 6, 7).predicted(1, 1, 0, 6), 8);
    }

    /** What is to the left, above, and above the left one, of (1, 1), in four bits. */
    private static MixedPredict around(int a, int b, int c) {
        return picture(2, 2, 4, 1, c, b, a, 0);
    }

    /** A sample of (x, y) is 1 + x + 16 y: no two are the same, and none is MID but (15, 7). */
    private static MixedPredict numbered() {
        MixedPredict x = new MixedPredict(16, 15, 8, 1);
        x.paint(1, 1);
        return x;
    }

    private static void noneToTheLeft() {
        sentence("a to the left, .. MID, where there is none in the tile");
        MixedPredict x = numbered();
        due("at the picture's left edge", x.predicted(0, 3, 0, 0), 128);
        due("at the tile's left edge", x.predicted(8, 3, 0, 0), 128);
        due("one further", x.predicted(1, 3, 0, 0), 49);
        due("one further in the tile", x.predicted(9, 3, 0, 0), 57);
        due("at the right edge", x.predicted(15, 0, 0, 0), 15);
    }

    private static void noneAbove() {
        sentence("b above, .. MID, where there is none in the tile");
        MixedPredict x = numbered();
        due("at the picture's upper edge", x.predicted(3, 0, 0, 1), 128);
        due("at the tile's upper edge", x.predicted(3, 8, 0, 1), 128);
        due("one below", x.predicted(3, 1, 0, 1), 4);
        due("one below in the tile", x.predicted(3, 9, 0, 1), 132);
        due("at the left edge", x.predicted(0, 14, 0, 1), 209);
    }

    private static void noneAboveTheLeft() {
        sentence("c above a, .. MID, where there is none in the tile");
        MixedPredict x = numbered();
        due("at the picture's left edge", x.predicted(0, 3, 0, 2), 128);
        due("at the picture's upper edge", x.predicted(3, 0, 0, 2), 128);
        due("at the tile's left edge", x.predicted(8, 3, 0, 2), 128);
        due("at the tile's upper edge", x.predicted(3, 8, 0, 2), 128);
        due("in the tile's corner", x.predicted(8, 8, 0, 2), 128);
        due("inside", x.predicted(1, 1, 0, 2), 1);
        due("inside the tile", x.predicted(9, 9, 0, 2), 137);
    }

    private static void noneAboveToTheRight() {
        sentence("d above to the right; MID, where there is none in the tile");
        MixedPredict x = numbered();
        due("at the picture's upper edge", x.predicted(3, 0, 0, 3), 128);
        due("at the tile's upper edge", x.predicted(3, 8, 0, 3), 128);
        due("at the tile's right edge", x.predicted(7, 3, 0, 3), 128);
        due("at the picture's right edge", x.predicted(15, 3, 0, 3), 128);
        due("inside", x.predicted(0, 1, 0, 3), 2);
        due("the last one inside", x.predicted(6, 1, 0, 3), 8);
        MixedPredict narrow = picture(3, 2, 8, 1, 10, 20, 30, 40, 50, 60);
        due("at the edge of a narrow picture", narrow.predicted(2, 1, 0, 3), 128);
        due("next to it", narrow.predicted(1, 1, 0, 3), 30);
    }

    private static void neighboursOfItsChannel() {
        sentence("NEIGHBOURS of a sample, of its channel and tile");
        MixedPredict x = new MixedPredict(3, 2, 8, 3);
        x.paint(10, 10);
        ways("channel 0", x, 1, 1, 0, 100, 40, 10, 70, 130, 70, 115, 85, 128);
        ways("channel 1", x, 1, 1, 1, 110, 50, 20, 80, 140, 80, 125, 95, 130);
        ways("channel 2", x, 1, 1, 2, 120, 60, 30, 90, 150, 90, 135, 105, 140);
    }

    private static void broughtToSamples() {
        sentence("each brought to 0 .. 2^bits - 1");
        due("4, just 0", around(3, 4, 7).predicted(1, 1, 0, 4), 0);
        due("4, one below", around(3, 4, 8).predicted(1, 1, 0, 4), 0);
        due("4, most below", around(0, 0, 15).predicted(1, 1, 0, 4), 0);
        due("4, just the greatest", around(9, 8, 2).predicted(1, 1, 0, 4), 15);
        due("4, one above", around(9, 8, 1).predicted(1, 1, 0, 4), 15);
        due("4, most above", around(15, 15, 0).predicted(1, 1, 0, 4), 15);
        due("6, just 0", around(2, 1, 5).predicted(1, 1, 0, 6), 0);
        due("6, one below", around(1, 1, 5).predicted(1, 1, 0, 6), 0);
        due("6, just the greatest", around(13, 5, 1).predicted(1, 1, 0, 6), 15);
        due("6, one above", around(14, 5, 1).predicted(1, 1, 0, 6), 15);
        due("7, just 0", around(1, 2, 5).predicted(1, 1, 0, 7), 0);
        due("7, one below", around(1, 1, 5).predicted(1, 1, 0, 7), 0);
        due("7, just the greatest", around(5, 13, 1).predicted(1, 1, 0, 7), 15);
        due("7, one above", around(5, 14, 1).predicted(1, 1, 0, 7), 15);
        due("5, both the greatest", around(15, 15, 0).predicted(1, 1, 0, 5), 15);
        due("5, both the least", around(0, 0, 15).predicted(1, 1, 0, 5), 0);
    }

    private static void noChannelBefore() {
        sentence("8: the sample of the channel before at its place, MID for channel 0");
        MixedPredict x = picture(2, 1, 8, 3, 1, 2, 3, 4, 5, 6);
        due("channel 0", x.predicted(1, 0, 0, 8), 128);
        due("channel 1", x.predicted(1, 0, 1, 8), 4);
        due("channel 2", x.predicted(1, 0, 2, 8), 5);
    }

    private static void weightsBegin() {
        sentence("Each way has a WEIGHT, 256 at the beginning of each tile");
        MixedPredict x = new MixedPredict(9, 8, 8, 1);
        x.paint(3, 50);
        x.put(8, 0, 0, 200);
        for (int row = 1; row < 8; row++) {
            x.put(8, row, 0, 200);
        }
        MixedPredict alone = new MixedPredict(1, 8, 8, 1);
        alone.paint(200, 0);
        x.encode();
        alone.encode();
        for (int way = 0; way < 9; way++) {
            due("as if there were no tile before, way " + way, x.weight(way), alone.weight(way));
        }
        due("it has learnt", alone.weight(1) != 256, true);
        MixedPredict again = new MixedPredict(1, 1, 8, 1);
        again.encode();
        weights("one sample, all expect MIXED", again, 256, 256, 256, 256, 256, 256, 256, 256, 256);
    }

    /**
     * To the right of 128 + t the ways expect, above 128, together 3 t and twice t / 2; MIXED is seen where a sample
     * that is just that changes no weight.
     */
    private static void mixedIsRounded() {
        sentence("and half of the sum of weights, divided by that sum");
        MixedPredict down = picture(2, 1, 8, 1, 138, 132);
        down.encode();
        weights("40 / 9 is 4", down, 256, 256, 256, 256, 256, 256, 256, 256, 256);
        MixedPredict up = picture(2, 1, 8, 1, 136, 132);
        up.encode();
        weights("32 / 9 is 4", up, 256, 256, 256, 256, 256, 256, 256, 256, 256);
        // the last one: 240 * 4 + 272 * 12 + 256 * 60 = 19584 is 8.5 times 2304
        MixedPredict half = picture(2, 2, 4, 1, 3, 12, 4, 9);
        half.encode();
        weights("8.5 is 9", half, 240, 272, 256, 256, 256, 256, 256, 256, 256);
        half.put(1, 1, 0, 8);
        half.encode();
        weights("8 is below it", half, 248, 264, 264, 264, 248, 264, 264, 248, 264);
    }

    /** Behind 130, which all expected as 128: 0, 4 and 6 expect 130, 5 and 7 129, which is MIXED, the others 128. */
    private static void weightsBySides() {
        sentence("(both above MIXED, or both below it) gets 8 more, ..; one on the other side 8 less");
        MixedPredict x = picture(2, 1, 8, 1, 130, 200);
        x.encode();
        weights("above MIXED", x, 264, 248, 248, 248, 264, 256, 264, 256, 248);
        x.put(1, 0, 0, 130);
        x.encode();
        weights("one above MIXED", x, 264, 248, 248, 248, 264, 256, 264, 256, 248);
        x.put(1, 0, 0, 129);
        x.encode();
        weights("as MIXED", x, 256, 256, 256, 256, 256, 256, 256, 256, 256);
        x.put(1, 0, 0, 128);
        x.encode();
        weights("one below MIXED", x, 248, 264, 264, 264, 248, 256, 248, 256, 264);
        x.put(1, 0, 0, 0);
        x.encode();
        weights("below MIXED", x, 248, 264, 264, 264, 248, 256, 248, 256, 264);
    }

    /** Rows in which all is the same, 0 and 255 by turns. */
    private static MixedPredict stripes(int height) {
        MixedPredict x = new MixedPredict(8, height, 8, 3);
        for (int i = 0; i < 24 * height; i++) {
            x.put(i / 3 % 8, i / 24, i % 3, (i / 24 & 1) * 255);
        }
        return x;
    }

    private static void weightsMost() {
        sentence("gets 8 more, to 1024");
        MixedPredict x = stripes(4);
        x.encode();
        due("not yet", x.weight(0), 984);
        MixedPredict y = stripes(5);
        y.encode();
        due("24 more times", y.weight(0), 1024);
        MixedPredict z = stripes(8);
        z.encode();
        due("it stays", z.weight(0), 1024);
        due("of another way", z.weight(4), 1024);
        z.put(7, 7, 2, 0);
        z.encode();
        due("once less than more", z.weight(0), 1016);
    }

    private static void weightsLeast() {
        sentence("8 less, to 8");
        MixedPredict x = stripes(1);
        x.encode();
        due("not yet", x.weight(1), 72);
        MixedPredict y = stripes(2);
        y.encode();
        due("more than 8 times less", y.weight(1), 8);
        MixedPredict z = stripes(8);
        z.encode();
        due("it stays", z.weight(1), 8);
        due("of another way", z.weight(7), 8);
        z.put(7, 7, 2, 0);
        z.encode();
        due("once more", z.weight(1), 16);
    }

    /** What was folded of the one sample of a picture: where its chances lead, a bit a node. */
    private static int folded(int bits, int sample) {
        MixedPredict x = picture(1, 1, bits, 1, sample);
        x.encode();
        int node = 1;
        for (int i = 0; i < bits; i++) {
            node = 2 * node + (x.chance(true, 0, 0, node) > 32768 ? 1 : 0);
        }
        return node - (1 << bits);
    }

    private static void missedIsARest() {
        sentence("MISSED is the sample less MIXED, as its rest by 2^bits");
        due("just MIXED", folded(8, 128), 0);
        due("1 below MIXED is 255", folded(8, 127), 1);
        due("128 below MIXED is 128", folded(8, 0), 255);
        // MIXED is 128, and to the right of 0 it is 640 / 9, to the right of 199 then 31 less 128
        MixedPredict x = new MixedPredict(8, 1, 8, 1);
        feedTile(x, 1);
        due("all its bits are 1", x.decode(), 8);
        samples("always 128 from MIXED", x, 0, 199, 31, 215, 35, 219, 35, 222);
    }

    private static void foldedAtMid() {
        sentence("FOLDED is twice it, if it is below MID, else 2 (2^bits - it) - 1");
        int[] oneBit = {1, 0};
        int[] threeBits = {7, 5, 3, 1, 0, 2, 4, 6};
        for (int sample = 0; sample < 2; sample++) {
            due("of 1 bit, " + sample, folded(1, sample), oneBit[sample]);
        }
        for (int sample = 0; sample < 8; sample++) {
            due("of 3 bits, " + sample, folded(3, sample), threeBits[sample]);
        }
        due("just below MID", folded(8, 255), 254);
        due("just MID", folded(8, 0), 255);
        due("one above MID", folded(8, 1), 253);
        due("the most", folded(8, 127), 1);
    }

    private static void bitsAndNodes() {
        sentence("its bits, the highest first. NODE, at first 1, is twice it, and the bit, behind each");
        // 2 of three bits is missed by 6 and folded 3: the bits 0, 1, 1 at the nodes 1, 2, 5
        MixedPredict x = picture(1, 1, 3, 1, 2);
        x.encode();
        int[] first = {30720, 34815, 32768, 32768, 34815, 32768, 32768};
        int[] second = {31744, 33791, 32768, 32768, 33791, 32768, 32768};
        for (int node = 1; node < 8; node++) {
            due("first, node " + node, x.chance(true, 0, 0, node), first[node - 1]);
            due("second, node " + node, x.chance(false, 0, 0, node), second[node - 1]);
        }
        MixedPredict most = picture(1, 1, 8, 1, 0);
        most.encode();
        due("the last node of all", most.chance(true, 0, 0, 255), 34815);
        MixedPredict least = picture(1, 1, 8, 1, 128);
        least.encode();
        due("the last node of zeros", least.chance(true, 0, 0, 128), 30720);
    }

    private static void chancesBegin() {
        sentence("both 32768 at the beginning of each tile");
        MixedPredict x = new MixedPredict(9, 8, 1, 1);
        x.paint(0, 1);
        x.put(8, 0, 0, 1);
        for (int row = 1; row < 8; row++) {
            x.put(8, row, 0, 1);
        }
        x.encode();
        MixedPredict alone = new MixedPredict(1, 8, 1, 1);
        alone.paint(1, 0);
        alone.encode();
        due("first", x.chance(true, 0, 0, 1), alone.chance(true, 0, 0, 1));
        due("second", x.chance(false, 0, 0, 1), alone.chance(false, 0, 0, 1));
        MixedPredict corner = new MixedPredict(9, 1, 1, 1);
        corner.paint(0, 0);
        corner.encode();
        due("first, once 1", corner.chance(true, 0, 0, 1), 34815);
        due("second, once 1", corner.chance(false, 0, 0, 1), 33791);
    }

    private static void textures() {
        sentence("TEXTURE, the lesser of 3 and (the distances of a and c, and of b and c, together) / 4");
        int[] distances = {0, 3, 4, 7, 8, 11, 12, 15, 16, 63};
        int[] textures = {0, 0, 1, 1, 2, 2, 3, 3, 3, 3};
        for (int i = 0; i < distances.length; i++) {
            for (int side = -1; side <= 1; side += 2) {
                MixedPredict x = picture(2, 1, 8, 1, 128 + side * distances[i], 128 + side * distances[i]);
                x.encode();
                learntOnlyIn("distance " + side * distances[i], x, true, textures[i]);
            }
        }
        MixedPredict most = picture(2, 1, 8, 1, 0, 0);
        most.encode();
        due("the greatest distance", most.chance(true, 0, 3, 1) != 32768, true);
    }

    /** Behind the first sample, which is of class 0, another one of this class (or of class 0 too). */
    private static void learntOnlyIn(String what, MixedPredict x, boolean first, int kind) {
        for (int other = 1; other < 4; other++) {
            due(what + ", class " + other, x.chance(first, 0, other, 1) != 32768, other == kind);
        }
    }

    private static void texturesTogether() {
        sentence("(the distances of a and c, and of b and c, together) / 4");
        MixedPredict x = picture(2, 2, 8, 1, 128, 130, 130, 130);
        x.encode();
        learntOnlyIn("2 and 2", x, true, 1);
        x.put(0, 1, 0, 129);
        x.encode();
        learntOnlyIn("1 and 2", x, true, 0);
        x.put(0, 1, 0, 126);
        x.encode();
        learntOnlyIn("-2 and 2", x, true, 1);
        x.put(0, 1, 0, 131);
        x.put(1, 0, 0, 125);
        x.encode();
        learntOnlyIn("3 and -3", x, true, 1);
    }

    private static void pasts() {
        sentence("PAST, the lesser of 3 and half of the number FOLDED of the sample of that channel told before");
        int[] samples = {128, 127, 129, 126, 130, 125, 131, 124, 132, 123};
        int[] pasts = {0, 0, 1, 1, 2, 2, 3, 3, 3, 3};
        for (int folded = 0; folded < 10; folded++) {
            MixedPredict x = picture(2, 1, 8, 1, samples[folded], 128);
            x.encode();
            learntOnlyIn("folded " + folded, x, false, pasts[folded]);
        }
        MixedPredict most = picture(2, 1, 8, 1, 0, 0);
        most.encode();
        learntOnlyIn("folded 255", most, false, 3);
        // 71 is MIXED to the right of 0: its past is 3, and the past of the last one is 0 again
        MixedPredict last = picture(3, 1, 8, 1, 0, 71, 0);
        last.encode();
        learntOnlyIn("the one before, not the first of all", last, false, 3);
        due("past 3, once 0", last.chance(false, 0, 3, 1), 31744);
        due("past 0, twice 1", last.chance(false, 0, 0, 1), 34783);
    }

    private static void pastOfTheFirst() {
        sentence("of the sample of that channel told before in the tile (0 for the first)");
        MixedPredict x = new MixedPredict(1, 1, 8, 2);
        x.encode();
        due("the other channel's first", x.chance(false, 1, 0, 1) != 32768, true);
        for (int past = 1; past < 4; past++) {
            due("not by channel 0, " + past, x.chance(false, 1, past, 1), 32768);
        }
        MixedPredict y = picture(9, 1, 8, 1, 128, 128, 128, 128, 128, 128, 128, 0, 128);
        y.encode();
        due("the next tile's first", y.chance(false, 0, 0, 1), 31744);
        learntOnlyIn("not by the tile before", y, false, 0);
    }

    private static void sharesBegin() {
        sentence("A channel has a SHARE, 32 at the beginning of each tile");
        MixedPredict x = new MixedPredict(9, 1, 1, 2);
        x.paint(1, 0);
        x.encode();
        due("channel 0", x.share(0), 32);
        due("channel 1", x.share(1), 32);
        MixedPredict alone = new MixedPredict(8, 1, 1, 2);
        alone.paint(1, 0);
        alone.encode();
        due("that tile's learnt", alone.share(0), 39);
        due("that tile's learnt, channel 1", alone.share(1), 39);
    }

    /**
     * As far as a tile leads: 64 times the same bit. The limits 64 and 65472 are not reached (535 * 63 and 4309 by 64
     * is 594, 65000 * 63 and 61226 by 64 is 64941), so that only what lies between can be seen.
     */
    private static void chanceOfABit() {
        sentence("(first chance times share, and second times 64 less share) / 64, brought to 64 .. 65472");
        MixedPredict zeros = new MixedPredict(8, 8, 1, 1);
        zeros.paint(1, 0);
        zeros.encode();
        codedTile("64 zeros", zeros, 1, 255, 253, 199);
        MixedPredict ones = allOnes();
        ones.encode();
        due("64 ones are by interval", ones.plain(0), false);
        int[] first = {ones.chance(true, 0, 0, 1), zeros.chance(true, 0, 0, 1)};
        int[] second = {ones.chance(false, 0, 0, 1), zeros.chance(false, 0, 0, 1)};
        due("the greatest first", first[0], 65000);
        due("the least first", first[1], 535);
        due("the greatest second", second[0], 61226);
        due("the least second", second[1], 4309);
    }

    /** A picture whose bits are all 1: bytes that lack count as 0, which is never above SPLIT. */
    private static MixedPredict allOnes() {
        MixedPredict x = new MixedPredict(8, 8, 1, 1);
        feedTile(x, 1);
        x.decode();
        return x;
    }

    private static void shareByTheNearer() {
        sentence("the share is 1 more, if the first chance is nearer to it (greater for 1, less for 0)");
        due("both are the same", shareOf(1), 32);
        due("less, for 0", shareOf(1, 1), 33);
        due("less, for 1", shareOf(1, 0), 31);
        due("greater, for 1", shareOf(0, 1), 33);
        due("greater, for 0", shareOf(0, 0), 31);
    }

    private static int shareOf(int... samples) {
        MixedPredict x = picture(samples.length, 1, 1, 1, samples);
        x.encode();
        return x.share(0);
    }

    private static void shareMost() {
        sentence("the share is 1 more, .., to 63");
        for (int height = 1; height <= 8; height++) {
            MixedPredict x = new MixedPredict(8, height, 1, 1);
            x.paint(1, 0);
            x.encode();
            due("of " + 8 * height + " bits", x.share(0), Math.min(63, 31 + 8 * height));
        }
        MixedPredict y = new MixedPredict(8, 5, 1, 1);
        y.paint(1, 0);
        y.put(7, 4, 0, 0);
        y.encode();
        due("once less behind that", y.share(0), 62);
    }

    private static void shareLeast() {
        sentence("and 1 less, if the second one is, to 1");
        for (int height = 1; height <= 8; height++) {
            MixedPredict x = pairs(height);
            x.encode();
            due("of " + 8 * height + " bits", x.share(0), Math.max(1, 33 - 8 * height));
        }
        MixedPredict y = pairs(4);
        y.put(7, 3, 0, 1);
        y.encode();
        due("once more instead", y.share(0), 3);
    }

    /** Pairs in which the chances always are wrong, and the first one more so. */
    private static MixedPredict pairs(int height) {
        MixedPredict x = new MixedPredict(8, height, 1, 1);
        for (int i = 0; i < 8 * height; i++) {
            x.put(i % 8, i / 8, 0, (i / 2 + i / 8) & 1);
        }
        if (height > 5) {
            x.put(7, 5, 0, 1);
        }
        if (height > 7) {
            x.put(7, 7, 0, 1);
        }
        return x;
    }

    private static void chancesForOne() {
        sentence("Then for 1 a chance is more by (65535 less it) / 16 (the first one), or / 32 (the second)");
        int[] first = {34815, 36735};
        int[] second = {33791, 34783};
        for (int i = 0; i < 2; i++) {
            MixedPredict x = i == 0 ? picture(1, 1, 1, 1, 0) : picture(2, 1, 1, 1, 0, 1);
            x.encode();
            due("first, " + (i + 1) + " times", x.chance(true, 0, 0, 1), first[i]);
            due("second, " + (i + 1) + " times", x.chance(false, 0, 0, 1), second[i]);
        }
    }

    private static void chancesForZero() {
        sentence("for 0 less by it / 16, or / 32");
        int[] first = {30720, 28800, 27000, 25313};
        int[] second = {31744, 30752, 29791, 28861};
        for (int i = 0; i < 4; i++) {
            MixedPredict x = new MixedPredict(i + 1, 1, 1, 1);
            x.paint(1, 0);
            x.encode();
            due("first, " + (i + 1) + " times", x.chance(true, 0, 0, 1), first[i]);
            due("second, " + (i + 1) + " times", x.chance(false, 0, 0, 1), second[i]);
        }
    }

    private static void intervalBegins() {
        sentence("THE INTERVAL is LOW .. HIGH, 0 .. 2^32 - 1 at first");
        MixedPredict x = new MixedPredict(16, 8, 1, 1);
        x.paint(1, 0);
        x.encode();
        int sum = sum(255, 253, 199);
        bytes("each tile as if alone", x, 1, 3, 0, sum, 255, 253, 199, 1, 3, 0, sum, 255, 253, 199);
    }

    private static void highIsSplit() {
        sentence("For 1, HIGH is SPLIT");
        MixedPredict x = picture(3, 1, 1, 1, 0, 1, 0);
        feedTile(x, 1);
        x.decode();
        x.encode();
        codedTile("three times 1, LOW stays 0", x, 1, 0, 0);
        // the first SPLIT is 7fffffff; behind a 0 LOW is 80000000, and with 31232 SPLIT is bcffffff
        MixedPredict y = new MixedPredict(4, 1, 1, 1);
        feedTile(y, 1, 0xbc, 0xff, 0xff, 0xff);
        y.decode();
        due("just SPLIT is 1", y.at(1, 0, 0), 0);
        feedTile(y, 1, 0xbd);
        y.decode();
        due("one above it is 0", y.at(1, 0, 0), 1);
        feedTile(y, 1, 0x7f, 0xff, 0xff, 0xff);
        y.decode();
        due("just the first SPLIT is 1", y.at(0, 0, 0), 0);
        feedTile(y, 1, 0x80);
        y.decode();
        due("one above the first SPLIT is 0", y.at(0, 0, 0), 1);
    }

    /** With 32768, 31232, 29746, 28308 for a 1: LOW is 80000000, bd000000, db68d300, eb36efbc. */
    private static void lowIsBehindSplit() {
        sentence("for 0, LOW is SPLIT + 1");
        MixedPredict x = new MixedPredict(3, 1, 1, 1);
        x.paint(1, 0);
        x.encode();
        codedTile("three times 0", x, 1, 0xdb, 0x69);
        MixedPredict y = new MixedPredict(4, 1, 1, 1);
        y.paint(1, 0);
        y.encode();
        codedTile("four times 0", y, 1, 0xeb, 0x37);
    }

    private static void bytesPutOut() {
        sentence("As long as the highest bytes of both (of four) are the same: that byte is put out");
        MixedPredict two = picture(6, 1, 5, 1, 10, 6, 9, 13, 12, 11);
        two.encode();
        codedTile("two at once", two, 1, 164, 185, 255, 126, 83);
        readAgain(two, 10, 6, 9, 13, 12, 11);
        int[] samples = {124, 123, 124, 122, 124, 124, 124, 123, 124, 124, 122, 122, 122, 124, 124, 124};
        MixedPredict three = picture(8, 1, 7, 2, samples);
        three.encode();
        codedTile("three at once", three, 1, 14, 93, 220, 216, 80, 107, 169, 74, 0, 0, 35, 150, 212, 153, 158);
        readAgain(three, samples);
        fourBytesPutOut();
    }

    /** LOW .. HIGH lies around 01000000 until it is that alone, and then all four go. */
    private static void fourBytesPutOut() {
        int[] samples = {0, 3, 0, 3, 1, 3, 1, 0, 1, 1, 1, 0, 1, 1, 2, 2, 0, 0, 2, 1, 0, 2, 2, 3};
        MixedPredict x = new MixedPredict(8, 3, 2, 1);
        feedTile(x, 1, 1, 0, 0, 0, 0xa7, 0x35, 0x5e, 0x91);
        due("four at once are read", x.decode(), 24);
        samples("four at once", x, samples);
        x.encode();
        codedTile("four at once", x, 1, 1, 0, 0, 0, 167, 52, 183);
        readAgain(x, samples);
        MixedPredict last = picture(8, 2, 2, 1, Arrays.copyOf(samples, 16));
        last.encode();
        codedTile("four at once, behind the last bit", last, 1, 1, 0, 0, 0, 0, 0);
    }

    private static void readAgain(MixedPredict x, int... samples) {
        x.pass();
        x.paint(0, 0);
        due("they are read", x.decode(), samples.length);
        samples("as they were", x, samples);
    }

    private static void lastTwoBytes() {
        sentence("At the end of the tile the highest two bytes of LOW + 65535 are put out");
        MixedPredict zero = new MixedPredict(3, 1, 1, 1);
        feedTile(zero, 1);
        zero.decode();
        zero.encode();
        codedTile("LOW is 0", zero, 1, 0, 0);
        MixedPredict whole = picture(1, 3, 1, 1, 1, 1, 0);
        whole.encode();
        codedTile("LOW is bd000000", whole, 1, 0xbd, 0);
        readAgain(whole, 1, 1, 0);
        MixedPredict above = picture(8, 1, 5, 1, 7, 8, 9, 16, 11, 12, 13, 14);
        above.encode();
        due("LOW is b1670001", above.byteAt(8) * 256 + above.byteAt(9), 0xb168);
        readAgain(above, 7, 8, 9, 16, 11, 12, 13, 14);
    }

    private static void tileByInterval() {
        sentence("1, how many follow behind the sum (low byte, high byte), the SUM .., what was put out");
        MixedPredict x = new MixedPredict(4, 1, 1, 1);
        x.paint(1, 0);
        x.encode();
        bytes("six bytes", x, 1, 2, 0, 165 ^ 2 ^ 0xeb ^ 0x37, 0xeb, 0x37);
    }

    private static void tileAsItIs() {
        sentence("But if that is not less than its samples in whole bytes: 0, and the same with these");
        MixedPredict one = picture(1, 1, 1, 1, 1);
        one.encode();
        bytes("two for one", one, 0, 1, 0, 165 ^ 1 ^ 1, 1);
        MixedPredict two = picture(2, 1, 1, 1, 1, 0);
        two.encode();
        bytes("two for two", two, 0, 2, 0, 165 ^ 2 ^ 1, 1, 0);
        MixedPredict three = picture(3, 1, 1, 1, 1, 1, 1);
        three.encode();
        bytes("two for three", three, 1, 2, 0, 165 ^ 2 ^ 0xdb ^ 0x69, 0xdb, 0x69);
        MixedPredict most = new MixedPredict(8, 8, 8, 3);
        for (int i = 0; i < 192; i++) {
            most.put(i / 3 % 8, i / 24, i % 3, i * i * 37 + i / 24 * 91 & 255);
        }
        most.encode();
        due("the most of one tile", most.told(1), 196);
        due("as it is", most.byteAt(0), 0);
        due("low byte", most.byteAt(1), 192);
        due("high byte", most.byteAt(2), 0);
        due("the last one", most.byteAt(195), 191 * 191 * 37 + 7 * 91 & 255);
    }

    private static void lackingBytes() {
        sentence("what lacks of an interval's bytes (four are read at first) counts as 0");
        int[] come = {0xb7, 0x31, 0xe9, 0x5d, 0x42};
        for (int some = 0; some <= come.length; some++) {
            int[] few = new int[some];
            int[] filled = new int[40];
            System.arraycopy(come, 0, few, 0, some);
            System.arraycopy(come, 0, filled, 0, some);
            MixedPredict x = new MixedPredict(5, 5, 8, 1);
            MixedPredict y = new MixedPredict(5, 5, 8, 1);
            feedTile(x, 1, few);
            feedTile(y, 1, filled);
            due(some + " bytes are good", x.decode(), 25);
            due("as many zeros as are needed", y.decode(), 25);
            for (int i = 0; i < 25; i++) {
                due(some + " bytes, sample " + i, x.at(i % 5, i / 5, 0), y.at(i % 5, i / 5, 0));
            }
        }
        MixedPredict next = new MixedPredict(9, 5, 8, 1);
        MixedPredict alone = new MixedPredict(8, 5, 8, 1);
        feedTile(next, 1, 0xb7);
        feedTile(next, 1, 255, 255, 255, 255);
        feedTile(alone, 1, 0xb7);
        due("two tiles", next.decode(), 45);
        due("one tile", alone.decode(), 40);
        for (int i = 0; i < 40; i++) {
            due("not the next tile's bytes, " + i, next.at(i % 8, i / 8, 0), alone.at(i % 8, i / 8, 0));
        }
    }
}
