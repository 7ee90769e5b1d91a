/** For each promise of the document: ordinary inputs, the edges that it names, and wrong inputs. */
public final class PromiseTest extends Check {
    public static void main(String[] args) {
        aNewObject();
        sizesCountAsTheNearest();
        put();
        paint();
        at();
        predictedInside();
        predictedAtBorders();
        predictedByTheChannelBefore();
        predictedRefuses();
        encodeAsItIs();
        encodeByInterval();
        encodeEndsAboveLow();
        encodeTiles();
        encodeChangesNoSample();
        byteAt();
        plain();
        weight();
        weightEnds();
        chance();
        share();
        feed();
        pass();
        poke();
        decodeWhatWasCoded();
        decodeByHand();
        decodeBad();
        decodeUpToTheFirstBadTile();
        decodeKeepsWhatEncodeLearnt();
        told();
        clear();
        end("PromiseTest");
    }

    // Promise 1
    private static void aNewObject() {
        MixedPredict x = new MixedPredict(9, 10, 5, 2);
        due("1 width", x.told(3), 9);
        due("1 height", x.told(4), 10);
        due("1 bits", x.told(5), 5);
        due("1 channels", x.told(6), 2);
        due("1 nothing coded", x.told(1), 0);
        due("1 nothing to be read", x.told(2), 0);
        for (int y = 0; y < 10; y++) {
            for (int i = 0; i < 18; i++) {
                due("1 sample", x.at(i / 2, y, i % 2), 0);
            }
        }
        due("1 NONE", MixedPredict.NONE, -1);
    }

    private static void sizesCountAsTheNearest() {
        int[] low = {0, -1, Integer.MIN_VALUE};
        for (int v : low) {
            sizes(new MixedPredict(v, v, v, v), 1, 1, 1, 1);
        }
        sizes(new MixedPredict(1, 1, 1, 1), 1, 1, 1, 1);
        sizes(new MixedPredict(16, 16, 8, 3), 16, 16, 8, 3);
        sizes(new MixedPredict(17, 17, 9, 4), 16, 16, 8, 3);
        int most = Integer.MAX_VALUE;
        sizes(new MixedPredict(most, most, most, most), 16, 16, 8, 3);
        sizes(new MixedPredict(0, 17, 2, 2), 1, 16, 2, 2);
        sizes(new MixedPredict(17, 0, 0, 4), 16, 1, 1, 3);
    }

    private static void sizes(MixedPredict x, int width, int height, int bits, int channels) {
        due("1 nearest width", x.told(3), width);
        due("1 nearest height", x.told(4), height);
        due("1 nearest bits", x.told(5), bits);
        due("1 nearest channels", x.told(6), channels);
        due("1 last sample", answer(() -> x.at(width - 1, height - 1, channels - 1)), 0);
        due("1 no wider", answer(() -> x.at(width, 0, 0)), INDEX);
        due("1 no higher", answer(() -> x.at(0, height, 0)), INDEX);
        due("1 no more channels", answer(() -> x.at(0, 0, channels)), INDEX);
        due("1 greatest", answer(() -> x.put(0, 0, 0, (1 << bits) - 1)), true);
        due("1 too great", answer(() -> x.put(0, 0, 0, 1 << bits)), ARGUMENT);
    }

    // Promise 2
    private static void put() {
        MixedPredict x = new MixedPredict(3, 2, 4, 2);
        due("2 the same", x.put(2, 1, 1, 0), false);
        due("2 another one", x.put(2, 1, 1, 15), true);
        due("2 again", x.put(2, 1, 1, 15), false);
        due("2 then", x.at(2, 1, 1), 15);
        due("2 no other place", x.at(2, 1, 0) + x.at(1, 1, 1) + x.at(2, 0, 1), 0);
        due("2 back", x.put(2, 1, 1, 0), true);
        x.put(0, 0, 0, 7);
        due("2 x", answer(() -> x.put(3, 0, 0, 1)), INDEX);
        due("2 y", answer(() -> x.put(0, 2, 0, 1)), INDEX);
        due("2 channel", answer(() -> x.put(0, 0, 2, 1)), INDEX);
        due("2 too great", answer(() -> x.put(0, 0, 0, 16)), ARGUMENT);
        due("2 the place comes first", answer(() -> x.put(3, 0, 0, 16)), INDEX);
        for (int v : WILD) {
            due("2 wild x", answer(() -> x.put(v, 0, 0, 1)), INDEX);
            due("2 wild y", answer(() -> x.put(0, v, 0, 1)), INDEX);
            due("2 wild channel", answer(() -> x.put(0, 0, v, 1)), INDEX);
            due("2 wild number", answer(() -> x.put(0, 0, 0, v)), ARGUMENT);
        }
        due("2 unchanged", x.at(0, 0, 0), 7);
        due("2 the rest too", x.paint(0, 0), 1);
    }

    // Promise 3
    private static void paint() {
        MixedPredict x = new MixedPredict(9, 2, 5, 2);
        due("3 all but two", x.paint(1, 1), 35);
        int next = 1;
        for (int y = 0; y < 2; y++) {
            for (int i = 0; i < 18; i++) {
                due("3 in the order of places", x.at(i / 2, y, i % 2), next++ % 32);
            }
        }
        due("3 once more", x.paint(1, 1), 0);
        due("3 from the rest", x.paint(33, -31), 0);
        due("3 one behind", x.paint(2, 1), 36);
        due("3 last", x.at(8, 1, 1), 37 % 32);
        due("3 below 0", x.paint(-1, 0), 35);
        due("3 its rest", x.at(4, 1, 0), 31);
        x.paint(0, -3);
        due("3 downward", x.at(0, 0, 1), 29);
        x.paint(Integer.MAX_VALUE, Integer.MAX_VALUE);
        due("3 wild first", x.at(0, 0, 0), 31);
        due("3 wild second", x.at(0, 0, 1), 30);
        x.paint(Integer.MIN_VALUE, Integer.MIN_VALUE + 1);
        due("3 wild least", x.at(0, 0, 0), 0);
        due("3 wild least and one", x.at(1, 0, 1), 3);
        MixedPredict bit = new MixedPredict(3, 1, 1, 1);
        due("3 of one bit", bit.paint(1, 1), 2);
        due("3 of one bit, the middle", bit.at(1, 0, 0), 0);
    }

    // Promise 4
    private static void at() {
        MixedPredict x = new MixedPredict(16, 11, 8, 3);
        x.put(15, 10, 2, 200);
        x.put(15, 10, 1, 100);
        due("4 last", x.at(15, 10, 2), 200);
        due("4 channel before", x.at(15, 10, 1), 100);
        due("4 first", x.at(0, 0, 0), 0);
        due("4 x", answer(() -> x.at(16, 0, 0)), INDEX);
        due("4 y", answer(() -> x.at(0, 11, 0)), INDEX);
        due("4 channel", answer(() -> x.at(0, 0, 3)), INDEX);
        for (int v : WILD) {
            due("4 wild x", answer(() -> x.at(v, 0, 0)), INDEX);
            due("4 wild y", answer(() -> x.at(0, v, 0)), INDEX);
            due("4 wild channel", answer(() -> x.at(0, 0, v)), INDEX);
        }
    }

    // Promise 5
    private static void predictedInside() {
        MixedPredict x = new MixedPredict(3, 2, 4, 1);
        around(x, 3, 8, 5, 15);
        ways("5 inside", x, 1, 1, 0, 3, 8, 5, 15, 6, 5, 4, 7, 8);
        around(x, 2, 3, 14, 0);
        ways("5 brought up to 0", x, 1, 1, 0, 2, 3, 14, 0, 0, 2, 0, 0, 8);
        around(x, 15, 12, 1, 0);
        ways("5 brought down", x, 1, 1, 0, 15, 12, 1, 0, 15, 13, 15, 15, 8);
        around(x, 7, 4, 5, 0);
        ways("5 downward below 0", x, 1, 1, 0, 7, 4, 5, 0, 6, 5, 6, 5, 8);
        around(x, 4, 7, 5, 0);
        ways("5 downward below 0, the other", x, 1, 1, 0, 4, 7, 5, 0, 6, 5, 5, 6, 8);
        x.put(1, 1, 0, 9);
        ways("5 the sample itself does not count", x, 1, 1, 0, 4, 7, 5, 0, 6, 5, 5, 6, 8);
    }

    /** To the left, above, above the left one, above to the right of (1, 1). */
    private static void around(MixedPredict x, int a, int b, int c, int d) {
        x.put(0, 1, 0, a);
        x.put(1, 0, 0, b);
        x.put(0, 0, 0, c);
        x.put(2, 0, 0, d);
    }

    private static void predictedAtBorders() {
        MixedPredict x = new MixedPredict(10, 10, 8, 1);
        x.paint(1, 1);
        // a sample is 1 + x + 10 y
        ways("5 first", x, 0, 0, 0, 128, 128, 128, 128, 128, 128, 128, 128, 128);
        ways("5 upper row", x, 2, 0, 0, 2, 128, 128, 128, 2, 65, 2, 65, 128);
        ways("5 left column", x, 0, 2, 0, 128, 11, 128, 12, 11, 69, 69, 11, 128);
        ways("5 last of a tile's row", x, 7, 2, 0, 27, 18, 17, 128, 28, 22, 27, 23, 128);
        ways("5 first of the next tile's", x, 8, 2, 0, 128, 19, 128, 20, 19, 73, 73, 19, 128);
        ways("5 last of the picture's row", x, 9, 2, 0, 29, 20, 19, 128, 30, 24, 29, 25, 128);
        ways("5 first row of the lower tile", x, 3, 8, 0, 83, 128, 128, 128, 83, 105, 83, 105, 128);
        ways("5 first of the last tile", x, 8, 8, 0, 128, 128, 128, 128, 128, 128, 128, 128, 128);
        ways("5 last", x, 9, 9, 0, 99, 90, 89, 128, 100, 94, 99, 95, 128);
    }

    private static void predictedByTheChannelBefore() {
        MixedPredict x = new MixedPredict(2, 1, 3, 3);
        x.paint(1, 1);
        due("5 channel 0", x.predicted(1, 0, 0, 8), 4);
        due("5 channel 1", x.predicted(1, 0, 1, 8), 4);
        due("5 channel 2", x.predicted(1, 0, 2, 8), 5);
        due("5 of its channel, 0", x.predicted(1, 0, 0, 0), 1);
        due("5 of its channel, 2", x.predicted(1, 0, 2, 0), 3);
    }

    private static void predictedRefuses() {
        MixedPredict x = new MixedPredict(4, 3, 8, 2);
        due("5 x", answer(() -> x.predicted(4, 0, 0, 0)), INDEX);
        due("5 y", answer(() -> x.predicted(0, 3, 0, 0)), INDEX);
        due("5 channel", answer(() -> x.predicted(0, 0, 2, 0)), INDEX);
        due("5 way", answer(() -> x.predicted(0, 0, 0, 9)), INDEX);
        for (int v : WILD) {
            due("5 wild x", answer(() -> x.predicted(v, 0, 0, 0)), INDEX);
            due("5 wild y", answer(() -> x.predicted(0, v, 0, 0)), INDEX);
            due("5 wild channel", answer(() -> x.predicted(0, 0, v, 0)), INDEX);
            due("5 wild way", answer(() -> x.predicted(0, 0, 0, v)), INDEX);
        }
    }

    // Promise 6
    private static void encodeAsItIs() {
        MixedPredict x = new MixedPredict(1, 1, 1, 1);
        due("6 one sample", x.encode(), 5);
        bytes("6 one sample", x, 0, 1, 0, 164, 0);
        x.put(0, 0, 0, 1);
        due("6 the other one", x.encode(), 5);
        bytes("6 the other one", x, 0, 1, 0, 165, 1);
        MixedPredict two = new MixedPredict(2, 1, 1, 1);
        due("6 as long is not less", two.encode(), 6);
        bytes("6 as long is not less", two, 0, 2, 0, 167, 0, 0);
        MixedPredict order = new MixedPredict(2, 2, 8, 1);
        order.paint(0, 77);
        order.encode();
        bytes("6 row by row", order, 0, 4, 0, 165 ^ 4 ^ 77 ^ 154 ^ 231, 0, 77, 154, 231);
    }

    /**
     * One bit, four times as expected: each is 0. SPLIT is 7fffffff, then LOW 80000000, with (30720 + 31744) / 2
     * SPLIT is bcffffff, then LOW bd000000, with (28800 * 33 + 30752 * 31) / 64 SPLIT is db68d2ff, then LOW
     * db68d300, with (27000 * 34 + 29791 * 30) / 64 SPLIT is eb36efbb, then LOW eb36efbc: eb37 comes out.
     */
    private static void encodeByInterval() {
        MixedPredict x = new MixedPredict(4, 1, 1, 1);
        x.paint(1, 0);
        due("6 by interval", x.encode(), 6);
        bytes("6 by interval", x, 1, 2, 0, 165 ^ 2 ^ 0xeb ^ 0x37, 0xeb, 0x37);
        due("6 as often as one likes", x.encode(), 6);
        MixedPredict three = new MixedPredict(3, 1, 1, 1);
        three.paint(1, 0);
        due("6 one less than as many", three.encode(), 6);
        bytes("6 one less than as many", three, 1, 2, 0, 165 ^ 2 ^ 0xdb ^ 0x69, 0xdb, 0x69);
        // from the tests that are shared
        MixedPredict y = new MixedPredict(2, 2, 3, 1);
        y.paint(1, 5);
        due("6 three bytes for four", y.encode(), 7);
    }

    /** LOW ends as b1670001: with a byte less than 65535 the bytes would tell a number below it. */
    private static void encodeEndsAboveLow() {
        MixedPredict x = new MixedPredict(8, 1, 5, 1);
        x.paint(7, 1);
        x.put(3, 0, 0, 16);
        due("6 the end", x.encode(), 10);
        due("6 the end, highest byte", x.byteAt(8), 0xb1);
        due("6 the end, next byte", x.byteAt(9), 0x68);
        x.pass();
        x.paint(0, 0);
        due("6 the end is read", x.decode(), 8);
        due("6 the end is read so", x.at(7, 0, 0), 14);
    }

    private static void encodeTiles() {
        MixedPredict x = new MixedPredict(9, 9, 8, 1);
        x.put(8, 0, 0, 3);
        x.put(0, 8, 0, 5);
        x.put(8, 8, 0, 7);
        int first = x.encode() - 12 - 12 - 5;
        due("6 the first tile is by interval", x.byteAt(0), 1);
        due("6 the first tile's length", 4 + x.byteAt(1) + 256 * x.byteAt(2), first);
        due("6 the second tile is to the right", x.byteAt(first + 4), 3);
        due("6 the third tile is below", x.byteAt(first + 16), 5);
        due("6 the fourth tile is the corner", x.byteAt(first + 28), 7);
        due("6 the fourth tile's sum", x.byteAt(first + 27), 165 ^ 1 ^ 7);
        MixedPredict most = noise();
        due("6 most", most.encode(), 784);
    }

    private static void encodeChangesNoSample() {
        MixedPredict x = new MixedPredict(16, 12, 6, 3);
        x.paint(9, 13);
        x.feed(4);
        x.encode();
        due("6 samples stay", x.paint(9, 13), 0);
        due("6 bytes to be read stay", x.told(2), 1);
        due("6 that one too", x.poke(0, 0), 4);
    }

    // Promise 7
    private static void byteAt() {
        MixedPredict x = new MixedPredict(1, 1, 8, 1);
        due("7 before", answer(() -> x.byteAt(0)), INDEX);
        x.put(0, 0, 0, 255);
        x.encode();
        due("7 last", answer(() -> x.byteAt(4)), 255);
        due("7 behind", answer(() -> x.byteAt(5)), INDEX);
        for (int v : WILD) {
            due("7 wild", answer(() -> x.byteAt(v)), INDEX);
        }
        x.put(0, 0, 0, 1);
        due("7 of what was coded", x.byteAt(4), 255);
        x.encode();
        due("7 of what is coded then", x.byteAt(4), 1);
        x.feed(1);
        x.decode();
        due("7 behind a decode", x.byteAt(4), 1);
    }

    // Promise 8
    private static void plain() {
        MixedPredict x = new MixedPredict(16, 9, 8, 1);
        for (int tile = 0; tile < 4; tile++) {
            due("8 before", x.plain(tile), false);
        }
        x.put(15, 8, 0, 255);
        x.encode();
        due("8 all the same", x.plain(0), false);
        due("8 all the same, to the right", x.plain(1), false);
        due("8 no more than eight samples", x.plain(2), true);
        due("8 the last one", x.plain(3), true);
        for (int i = 0; i < 64; i++) {
            x.put(i % 8, i / 8, 0, i * i * 37 & 255);
        }
        due("8 of the latest encode", x.plain(0), false);
        x.encode();
        due("8 of this one", x.plain(0), true);
        x.paint(0, 0);
        x.encode();
        due("8 and of this one", x.plain(0), false);
        due("8 tile", answer(() -> x.plain(4)), INDEX);
        for (int v : WILD) {
            due("8 wild", answer(() -> x.plain(v)), INDEX);
        }
        MixedPredict one = new MixedPredict(8, 8, 8, 3);
        due("8 only one tile", answer(() -> one.plain(1)), INDEX);
    }

    // Promise 9
    private static void weight() {
        MixedPredict x = new MixedPredict(2, 1, 8, 1);
        weights("9 before", x, 256, 256, 256, 256, 256, 256, 256, 256, 256);
        x.put(0, 0, 0, 200);
        x.put(1, 0, 0, 100);
        weights("9 not yet", x, 256, 256, 256, 256, 256, 256, 256, 256, 256);
        x.encode();
        // 200: all expect 128. 100: a, 4, 6 expect 200, 5 and 7 expect 164, the others 128; MIXED is 160.
        weights("9 the other side", x, 248, 264, 264, 264, 248, 248, 248, 248, 264);
        x.put(1, 0, 0, 160);
        x.encode();
        weights("9 as MIXED", x, 256, 256, 256, 256, 256, 256, 256, 256, 256);
        x.put(1, 0, 0, 161);
        x.encode();
        weights("9 above MIXED", x, 264, 248, 248, 248, 264, 264, 264, 264, 248);
        due("9 way", answer(() -> x.weight(9)), INDEX);
        for (int v : WILD) {
            due("9 wild", answer(() -> x.weight(v)), INDEX);
        }
        MixedPredict y = new MixedPredict(9, 1, 8, 1);
        y.paint(3, 50);
        y.encode();
        weights("9 behind the last tile", y, 256, 256, 256, 256, 256, 256, 256, 256, 256);
    }

    /** Rows that hold the same number each, first below, then above what they follow. */
    private static void weightEnds() {
        MixedPredict x = new MixedPredict(8, 8, 8, 3);
        for (int y = 0; y < 8; y++) {
            for (int i = 0; i < 24; i++) {
                x.put(i / 3, y, i % 3, (y & 1) * 255);
            }
        }
        x.encode();
        int least = 1024;
        int most = 8;
        for (int way = 0; way < 9; way++) {
            least = Math.min(least, x.weight(way));
            most = Math.max(most, x.weight(way));
        }
        due("9 least", least, 8);
        due("9 most", most, 1024);
    }

    // Promise 10
    private static void chance() {
        MixedPredict x = new MixedPredict(2, 1, 2, 2);
        due("10 before", x.chance(true, 1, 3, 3), 32768);
        due("10 before, the second", x.chance(false, 1, 3, 3), 32768);
        x.paint(2, 0);
        due("10 not yet", x.chance(true, 0, 0, 1), 32768);
        x.encode();
        // as expected, twice by channel: folded 0, so bits 0 at the nodes 1 and 2
        for (int channel = 0; channel < 2; channel++) {
            due("10 first, node 1", x.chance(true, channel, 0, 1), 28800);
            due("10 first, node 2", x.chance(true, channel, 0, 2), 28800);
            due("10 first, node 3", x.chance(true, channel, 0, 3), 32768);
            due("10 second, node 1", x.chance(false, channel, 0, 1), 30752);
            due("10 second, node 2", x.chance(false, channel, 0, 2), 30752);
            due("10 second, node 3", x.chance(false, channel, 0, 3), 32768);
            due("10 another texture", x.chance(true, channel, 1, 1), 32768);
            due("10 another past", x.chance(false, channel, 1, 1), 32768);
        }
        MixedPredict y = new MixedPredict(2, 1, 8, 1);
        y.put(0, 0, 0, 1);
        y.put(1, 0, 0, 0);
        y.encode();
        // 1 is missed by 129, folded 253, 11111101 (at node 127 is the 0); then 0, with texture 3 and past 3.
        due("10 for 1, first", y.chance(true, 0, 0, 1), 34815);
        due("10 for 1, second", y.chance(false, 0, 0, 1), 33791);
        due("10 for 0, first", y.chance(true, 0, 0, 127), 30720);
        due("10 for 0, second", y.chance(false, 0, 0, 127), 31744);
        due("10 texture 3", y.chance(true, 0, 3, 1) != 32768, true);
        due("10 past 3", y.chance(false, 0, 3, 1) != 32768, true);
        refusedChances(y);
        MixedPredict z = new MixedPredict(9, 1, 1, 1);
        z.encode();
        due("10 behind the last tile", z.chance(true, 0, 0, 1), 34815);
    }

    private static void refusedChances(MixedPredict y) {
        due("10 last", answer(() -> y.chance(true, 0, 3, 255)), 32768);
        due("10 channel", answer(() -> y.chance(true, 1, 0, 1)), INDEX);
        due("10 class", answer(() -> y.chance(true, 0, 4, 1)), ARGUMENT);
        due("10 node 0", answer(() -> y.chance(false, 0, 0, 0)), ARGUMENT);
        due("10 node", answer(() -> y.chance(false, 0, 0, 256)), ARGUMENT);
        due("10 the channel comes first", answer(() -> y.chance(true, 1, 4, 0)), INDEX);
        for (int v : WILD) {
            due("10 wild channel", answer(() -> y.chance(true, v, 0, 1)), INDEX);
            due("10 wild class", answer(() -> y.chance(true, 0, v, 1)), ARGUMENT);
            due("10 wild node", answer(() -> y.chance(false, 0, 0, v)), ARGUMENT);
        }
    }

    // Promise 11
    private static void share() {
        MixedPredict x = new MixedPredict(3, 1, 1, 2);
        due("11 before", x.share(1), 32);
        x.paint(1, 0);
        due("11 not yet", x.share(0), 32);
        x.encode();
        // three times 0: the first time the chances are the same, then the first one is the lesser
        due("11 the first is nearer", x.share(0), 34);
        due("11 of the other channel", x.share(1), 34);
        x.put(2, 0, 0, 0);
        x.encode();
        due("11 the second is nearer", x.share(0), 32);
        due("11 channel", answer(() -> x.share(2)), INDEX);
        for (int v : WILD) {
            due("11 wild", answer(() -> x.share(v)), INDEX);
        }
        MixedPredict y = new MixedPredict(8, 8, 1, 1);
        y.paint(1, 0);
        y.encode();
        due("11 most", y.share(0), 63);
    }

    // Promise 12
    private static void feed() {
        MixedPredict x = new MixedPredict(1, 1, 1, 1);
        due("12 first", x.feed(255), 1);
        due("12 second", x.feed(0), 2);
        due("12 there it is", x.poke(0, 0), 255);
        due("12 too great", answer(() -> x.feed(256)), ARGUMENT);
        for (int v : WILD) {
            due("12 wild", answer(() -> x.feed(v)), ARGUMENT);
        }
        due("12 unchanged", x.told(2), 2);
        MixedPredict full = full(0);
        due("12 no more than 4000", answer(() -> full.feed(0)), UNSUPPORTED);
        due("12 the byte comes first", answer(() -> full.feed(256)), ARGUMENT);
        due("12 still 4000", full.told(2), 4000);
        full.decode();
        due("12 room again", full.feed(1), 1);
    }

    // Promise 13
    private static void pass() {
        MixedPredict x = new MixedPredict(1, 1, 8, 1);
        due("13 nothing", x.pass(), 0);
        x.feed(9);
        due("13 nothing behind it", x.pass(), 1);
        x.put(0, 0, 0, 44);
        x.encode();
        due("13 behind", x.pass(), 6);
        due("13 still first", x.poke(0, 0), 9);
        due("13 the tile's first", x.poke(1, 0), 0);
        due("13 the tile's last", x.poke(5, 0), 44);
        due("13 as often as one likes", x.pass(), 11);
        due("13 what was coded stays", x.told(1), 5);
        MixedPredict full = full(0);
        due("13 above 4000", answer(() -> full.pass()), UNSUPPORTED);
        due("13 unchanged", full.told(2), 4000);
        full.clear();
        due("13 nothing behind nothing", full.pass(), 0);
        justFull();
    }

    private static void justFull() {
        MixedPredict x = new MixedPredict(16, 16, 8, 3);
        for (int i = 0; i < 300; i++) {
            x.put(i & 15, i * 7 >> 4 & 15, i % 3, i * i * 31 & 255);
        }
        x.encode();
        int some = x.told(1);
        int passes = 4000 / some;
        for (int i = 0; i < passes; i++) {
            x.pass();
        }
        MixedPredict y = x;
        due("13 some above", answer(() -> y.pass()), UNSUPPORTED);
        due("13 none came", y.told(2), passes * some);
        MixedPredict z = new MixedPredict(4, 4, 8, 1);
        z.paint(0, 77);
        due("13 twenty bytes", z.encode(), 20);
        for (int i = 1; i < 200; i++) {
            z.pass();
        }
        due("13 just 4000", answer(() -> z.pass()), 4000);
        due("13 no more", answer(() -> z.pass()), UNSUPPORTED);
    }

    // Promise 14
    private static void poke() {
        MixedPredict x = new MixedPredict(1, 1, 8, 1);
        due("14 nothing there", answer(() -> x.poke(0, 0)), INDEX);
        x.feed(0xa5);
        x.feed(0x0f);
        due("14 exclusive or", x.poke(0, 255), 0x5a);
        due("14 it stays so", x.poke(0, 0), 0x5a);
        due("14 the other one", x.poke(1, 1), 0x0e);
        due("14 index", answer(() -> x.poke(2, 1)), INDEX);
        due("14 mask", answer(() -> x.poke(0, 256)), ARGUMENT);
        due("14 the index comes first", answer(() -> x.poke(2, 256)), INDEX);
        for (int v : WILD) {
            due("14 wild index", answer(() -> x.poke(v, 0)), INDEX);
            due("14 wild mask", answer(() -> x.poke(0, v)), ARGUMENT);
        }
        due("14 unchanged", x.poke(0, 0), 0x5a);
        x.decode();
        due("14 gone", answer(() -> x.poke(0, 0)), INDEX);
        x.encode();
        x.pass();
        x.poke(4, 3);
        due("14 what was coded stays", x.byteAt(4), 0);
    }

    // Promise 15
    private static void decodeWhatWasCoded() {
        int[][] sizes = {{1, 1, 1, 1}, {8, 8, 8, 3}, {9, 7, 5, 2}, {16, 16, 4, 3}, {15, 10, 8, 1}, {16, 16, 1, 1}};
        int[] steps = {0, 1, 7, 37, -1, 1000003};
        for (int[] size : sizes) {
            for (int step : steps) {
                MixedPredict x = new MixedPredict(size[0], size[1], size[2], size[3]);
                x.paint(3, step);
                x.encode();
                x.pass();
                x.paint(1, 11);
                due("15 how many", x.decode(), size[0] * size[1] * size[3]);
                due("15 the same", x.paint(3, step), 0);
                due("15 it is gone", x.told(2), 0);
            }
        }
    }

    private static void decodeByHand() {
        MixedPredict x = new MixedPredict(4, 1, 1, 1);
        feed(x, 1, 2, 0, 165 ^ 2 ^ 0xeb ^ 0x37, 0xeb, 0x37);
        due("15 by interval", x.decode(), 4);
        due("15 four times 1", x.paint(1, 0), 0);
        feed(x, 1, 0, 0, 165);
        due("15 what lacks is 0", x.decode(), 4);
        due("15 bits 1", x.at(0, 0, 0), 0);
        feed(x, 1, 5, 0, 165 ^ 5 ^ 0xeb ^ 0x37 ^ 1 ^ 2 ^ 3, 0xeb, 0x37, 1, 2, 3);
        due("15 more bytes than samples, by interval", x.decode(), 4);
        due("15 four times 1 again", x.paint(1, 0), 0);
        feed(x, 0, 4, 0, 165 ^ 4 ^ 1 ^ 1, 0, 1, 0, 1, 77, 78);
        due("15 as it is, and passed over what is behind", x.decode(), 4);
        due("15 it is so", x.paint(0, 1), 0);
        due("15 passed over is gone too", x.told(2), 0);
        due("15 the high byte counts", threeHundred(300), 1);
        due("15 one less than it tells", threeHundred(299), -1);
    }

    private static int threeHundred(int come) {
        MixedPredict x = new MixedPredict(1, 1, 8, 1);
        feed(x, 1, 44, 1, 165 ^ 44 ^ 1);
        for (int i = 0; i < come; i++) {
            x.feed(0);
        }
        return x.decode();
    }

    private static void decodeBad() {
        MixedPredict x = new MixedPredict(2, 1, 2, 1);
        x.paint(1, 1);
        bad("nothing", x);
        bad("no length", x, 1);
        bad("no high byte", x, 1, 0);
        bad("no sum", x, 1, 0, 0);
        bad("no sum that would be so", x, 0, 165, 0);
        bad("first byte", x, 2, 0, 0, 165);
        bad("first byte 255", x, 255, 0, 0, 165);
        bad("first byte 2, as it is", x, 2, 2, 0, 167, 0, 0);
        bad("not as many as it tells", x, 1, 1, 0, 164);
        bad("many less", x, 1, 255, 255, 165);
        bad("not as many, as it is", x, 0, 2, 0, 167, 0);
        bad("another sum", x, 1, 0, 0, 164);
        bad("another sum, as it is", x, 0, 2, 0, 167, 0, 1);
        bad("less than samples", x, 0, 1, 0, 164, 0);
        bad("none of the samples", x, 0, 0, 0, 165);
        bad("more than samples", x, 0, 3, 0, 166, 0, 0, 0);
        bad("too great", x, 0, 2, 0, 167 ^ 4, 0, 4);
        bad("too great, the first", x, 0, 2, 0, 167 ^ 255, 255, 0);
        feed(x, 0, 2, 0, 167 ^ 3, 0, 3);
        due("15 the greatest is good", x.decode(), 2);
        due("15 there it is", x.at(1, 0, 0), 3);
        MixedPredict most = new MixedPredict(1, 1, 8, 1);
        feed(most, 0, 1, 0, 164 ^ 255, 255);
        due("15 255 is good of 8 bits", most.decode(), 1);
    }

    private static void bad(String what, MixedPredict x, int... bytes) {
        feed(x, bytes);
        due("15 " + what, x.decode(), -1);
        due("15 " + what + ": it is gone", x.told(2), 0);
        due("15 " + what + ": samples stay", x.paint(1, 1), 0);
    }

    private static void decodeUpToTheFirstBadTile() {
        MixedPredict x = new MixedPredict(9, 9, 8, 1);
        x.paint(5, 3);
        int all = x.encode();
        for (int tile = 0; tile < 4; tile++) {
            x.paint(5, 3);
            x.pass();
            int from = 0;
            for (int i = 0; i < tile; i++) {
                from += 4 + x.byteAt(from + 1) + 256 * x.byteAt(from + 2);
            }
            x.poke(from + 3, 16);
            x.paint(0, 0);
            due("15 bad tile " + tile, x.decode(), -1 - tile);
            due("15 left above", x.at(7, 7, 0) == (5 + 3 * 70 & 255), tile > 0);
            due("15 right above", x.at(8, 7, 0) == (5 + 3 * 71 & 255), tile > 1);
            due("15 left below", x.at(7, 8, 0) == (5 + 3 * 79 & 255), tile > 2);
            due("15 right below", x.at(8, 8, 0), 0);
            due("15 the rest is gone too", x.told(2), 0);
        }
        x.paint(5, 3);
        for (int i = 0; i < all - 1; i++) {
            x.feed(x.byteAt(i));
        }
        due("15 cut short", x.decode(), -4);
    }

    private static void decodeKeepsWhatEncodeLearnt() {
        MixedPredict x = new MixedPredict(8, 8, 4, 1);
        x.paint(0, 3);
        x.encode();
        int weight = x.weight(0);
        int chance = x.chance(true, 0, 0, 1);
        int second = x.chance(false, 0, 0, 1);
        int share = x.share(0);
        feed(x, 1, 3, 0, 165 ^ 3 ^ 99 ^ 88 ^ 77, 99, 88, 77);
        due("15 another picture", x.decode(), 64);
        due("15 weight", x.weight(0), weight);
        due("15 first chance", x.chance(true, 0, 0, 1), chance);
        due("15 second chance", x.chance(false, 0, 0, 1), second);
        due("15 share", x.share(0), share);
        due("15 plain", x.plain(0), false);
    }

    // Promise 16
    private static void told() {
        int[][] tiles = {{1, 1, 1}, {8, 8, 1}, {9, 8, 2}, {8, 9, 2}, {9, 9, 4}, {16, 16, 4}, {16, 3, 2}, {2, 16, 2}};
        for (int[] t : tiles) {
            due("16 tiles", new MixedPredict(t[0], t[1], 8, 1).told(0), t[2]);
        }
        MixedPredict x = new MixedPredict(3, 2, 7, 2);
        x.encode();
        x.feed(1);
        x.pass();
        due("16 coded", x.told(1), x.encode());
        due("16 to be read", x.told(2), 1 + x.told(1));
        due("16 width", x.told(3), 3);
        due("16 height", x.told(4), 2);
        due("16 bits", x.told(5), 7);
        due("16 channels", x.told(6), 2);
        due("16 another", x.told(7), MixedPredict.NONE);
        for (int v : WILD) {
            due("16 wild", x.told(v), MixedPredict.NONE);
        }
    }

    // Promise 17
    private static void clear() {
        MixedPredict x = new MixedPredict(9, 2, 3, 2);
        x.paint(1, 3);
        x.encode();
        x.pass();
        x.clear();
        due("17 coded", x.told(1), 0);
        due("17 to be read", x.told(2), 0);
        due("17 sizes", x.told(3) * 1000 + x.told(4) * 100 + x.told(5) * 10 + x.told(6), 9232);
        due("17 no byte", answer(() -> x.byteAt(0)), INDEX);
        due("17 none to be read", answer(() -> x.poke(0, 0)), INDEX);
        due("17 plain", x.plain(0) || x.plain(1), false);
        weights("17", x, 256, 256, 256, 256, 256, 256, 256, 256, 256);
        for (int i = 0; i < 64; i++) {
            int channel = i / 32;
            int kind = i / 8 % 4;
            int node = Math.max(1, i % 8);
            due("17 first chance", x.chance(true, channel, kind, node), 32768);
            due("17 second chance", x.chance(false, channel, kind, node), 32768);
        }
        due("17 shares", x.share(0) * 100 + x.share(1), 3232);
        due("17 nothing to pass", x.pass(), 0);
        due("17 samples", x.paint(0, 0), 0);
        MixedPredict fresh = new MixedPredict(9, 2, 3, 2);
        fresh.paint(1, 3);
        x.paint(1, 3);
        due("17 as at first", x.encode(), fresh.encode());
        for (int i = 0; i < fresh.told(1); i++) {
            due("17 byte", x.byteAt(i), fresh.byteAt(i));
        }
    }
}
