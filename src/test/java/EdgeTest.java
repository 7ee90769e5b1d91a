/** The document's bad tiles, refused calls and promises: for each sentence that names an edge, a test of its own. */
public final class EdgeTest extends Check {
    public static void main(String[] args) {
        firstByte();
        fewerThanTold();
        anotherSum();
        notAsManyAsSamples();
        sampleTooGreat();
        noSuchIndex();
        noSuchNumber();
        moreThanThereMayBe();
        theFirstOneNamed();
        aRefusedCallChangesNothing();
        newObject();
        whetherItWasAnother();
        paintsInOrder();
        paintsRests();
        paintsHowMany();
        aSample();
        whatIsExpected();
        howManyBytes();
        codedAnew();
        aByteOfWhatWasCoded();
        plainBefore();
        plainAtTheLatest();
        weightBefore();
        weightBehindTheLastTile();
        chanceBefore();
        chanceBehindTheLastTile();
        chancesChannel();
        chancesClassAndNode();
        shareBefore();
        shareBehindThatTile();
        fedBytes();
        fedFull();
        passesAll();
        passesUpTo4000();
        pokes();
        readAndGone();
        upToTheFirstBad();
        howManySamples();
        passedOver();
        toldNumbers();
        toldNone();
        asAtFirst();
        end("EdgeTest");
    }

    /** Two samples of two bits, 1 and 2, that a bad tile leaves as they are. */
    private static void bad(String what, int... bytes) {
        MixedPredict x = picture(2, 1, 2, 1, 1, 2);
        feed(x, bytes);
        due(what, x.decode(), -1);
        samples(what, x, 1, 2);
        due(what + ": it is gone", x.told(2), 0);
    }

    private static void good(String what, int[] bytes, int... want) {
        MixedPredict x = picture(2, 1, 2, 1, 1, 2);
        feed(x, bytes);
        due(what, x.decode(), 2);
        samples(what, x, want);
        due(what + ": it is gone", x.told(2), 0);
    }

    private static void firstByte() {
        sentence("A tile is BAD, if its first byte is neither 0 nor 1");
        good("0", new int[] {0, 2, 0, sum(3, 0), 3, 0}, 3, 0);
        // above the first SPLIT, and then never: 0, 1 is missed by 3, and to the right of 1 then 1, 1 by 2
        good("1", new int[] {1, 2, 0, sum(0x80, 0), 0x80, 0}, 1, 3);
        for (int first : new int[] {2, 3, 4, 127, 128, 129, 254, 255}) {
            bad(first + ", else as it is", first, 2, 0, sum(3, 0), 3, 0);
            bad(first + ", else by interval", first, 1, 0, sum(0x80), 0x80);
        }
    }

    private static void fewerThanTold() {
        sentence("or it has not as many bytes as it tells");
        bad("none at all");
        bad("no length", 1);
        bad("no high byte", 1, 0);
        bad("no sum", 1, 0, 0);
        bad("no sum, where 0 would be right", 1, 165, 0);
        bad("no sum, as it is", 0, 2, 0);
        good("none follow, none are told", new int[] {1, 0, 0, 165}, 0, 3);
        bad("one less than one", 1, 1, 0, 164);
        bad("one less than two", 1, 2, 0, 165 ^ 2 ^ 9, 9);
        bad("one less than two, as it is", 0, 2, 0, 165 ^ 2 ^ 3, 3);
        bad("256 told by the high byte", 1, 0, 1, 164);
        bad("all that can be told", 1, 255, 255, 165);
        MixedPredict x = new MixedPredict(1, 1, 8, 1);
        feed(x, 1, 0, 1, 164);
        for (int i = 0; i < 256; i++) {
            x.feed(0);
        }
        due("just 256", x.decode(), 1);
        feed(x, 1, 0, 1, 164);
        for (int i = 0; i < 200; i++) {
            x.feed(0);
        }
        due("200 of 256", x.decode(), -1);
    }

    private static void anotherSum() {
        sentence("or the sum is another one");
        for (int bit = 1; bit < 256; bit *= 2) {
            bad("by interval, other by " + bit, 1, 2, 0, sum(7, 9) ^ bit, 7, 9);
            bad("none follow, other by " + bit, 1, 0, 0, 165 ^ bit);
            bad("as it is, other by " + bit, 0, 2, 0, sum(3, 1) ^ bit, 3, 1);
        }
        bad("without its length", 1, 2, 0, 165 ^ 7 ^ 9, 7, 9);
        bad("without 165", 1, 2, 0, 2 ^ 7 ^ 9, 7, 9);
        bad("with its first byte", 1, 2, 0, sum(7, 9) ^ 1, 7, 9);
        good("all by exclusive or", new int[] {1, 2, 0, 165 ^ 2 ^ 7 ^ 7, 7, 7}, 0, 3);
    }

    private static void notAsManyAsSamples() {
        sentence("or it is 0 and has not just as many bytes as samples (more are bad, too)");
        bad("none", 0, 0, 0, sum());
        bad("one less", 0, 1, 0, sum(1), 1);
        good("as many", new int[] {0, 2, 0, sum(1, 1), 1, 1}, 1, 1);
        bad("one more", 0, 3, 0, sum(1, 1, 0), 1, 1, 0);
        MixedPredict x = new MixedPredict(9, 1, 8, 2);
        feedTile(x, 0, 1, 2, 3, 4, 5, 6, 7, 8, 9, 10, 11, 12, 13, 14, 15, 16);
        feedTile(x, 0, 17, 18);
        due("each tile its own", x.decode(), 18);
        due("the last one", x.at(8, 0, 1), 18);
        feedTile(x, 0, 1, 2, 3, 4, 5, 6, 7, 8, 9, 10, 11, 12, 13, 14, 15, 16);
        feedTile(x, 0, 1);
        due("a channel less", x.decode(), -2);
        feedTile(x, 0, 1, 2, 3, 4, 5, 6, 7, 8, 9, 10, 11, 12, 13, 14, 15, 16, 17, 18);
        due("as many as the whole picture", x.decode(), -1);
        MixedPredict byInterval = new MixedPredict(2, 1, 2, 1);
        feedTile(byInterval, 1, 1, 2, 3, 4, 5, 6, 7, 8, 9);
        due("by interval there may be more", byInterval.decode(), 2);
    }

    private static void sampleTooGreat() {
        sentence("or one of these is too great");
        good("the greatest", new int[] {0, 2, 0, sum(3, 3), 3, 3}, 3, 3);
        bad("the first is one more", 0, 2, 0, sum(4, 0), 4, 0);
        bad("the last is one more", 0, 2, 0, sum(0, 4), 0, 4);
        bad("255", 0, 2, 0, sum(0, 255), 0, 255);
        good("by interval none is", new int[] {1, 2, 0, sum(255, 255), 255, 255}, 2, 2);
        for (int bits = 1; bits < 8; bits++) {
            MixedPredict x = new MixedPredict(1, 1, bits, 1);
            feedTile(x, 0, (1 << bits) - 1);
            due("the greatest of " + bits + " bits", x.decode(), 1);
            feedTile(x, 0, 1 << bits);
            due("one more, of " + bits + " bits", x.decode(), -1);
        }
        MixedPredict most = new MixedPredict(1, 1, 8, 1);
        feedTile(most, 0, 255);
        due("255 of 8 bits", most.decode(), 1);
    }

    /** Has samples, coded bytes, bytes to be read, and what it has learnt. */
    private static MixedPredict used() {
        MixedPredict x = picture(9, 1, 2, 2, 1, 2, 3, 0, 1, 2, 3, 3, 3, 2, 2, 1, 0, 0, 1, 1, 2, 3);
        x.encode();
        feed(x, 9, 255, 0, 77);
        return x;
    }

    private static void noSuchIndex() {
        sentence("IndexOutOfBounds: there is no such sample, byte, tile, way");
        MixedPredict x = used();
        for (int v : new int[] {9, 10, -1, Integer.MIN_VALUE, Integer.MAX_VALUE}) {
            due("put, x", answer(() -> x.put(v, 0, 0, 1)), INDEX);
            due("at, x", answer(() -> x.at(v, 0, 0)), INDEX);
            due("predicted, x", answer(() -> x.predicted(v, 0, 0, 0)), INDEX);
            due("way", answer(() -> x.predicted(0, 0, 0, v)), INDEX);
            due("weight", answer(() -> x.weight(v)), INDEX);
        }
        for (int v : new int[] {1, 2, -1, Integer.MIN_VALUE, Integer.MAX_VALUE}) {
            due("put, y", answer(() -> x.put(0, v, 0, 1)), INDEX);
            due("at, y", answer(() -> x.at(0, v, 0)), INDEX);
            due("predicted, y", answer(() -> x.predicted(0, v, 0, 0)), INDEX);
        }
        for (int v : new int[] {2, 3, -1, Integer.MIN_VALUE, Integer.MAX_VALUE}) {
            due("put, channel", answer(() -> x.put(0, 0, v, 1)), INDEX);
            due("at, channel", answer(() -> x.at(0, 0, v)), INDEX);
            due("predicted, channel", answer(() -> x.predicted(0, 0, v, 0)), INDEX);
            due("chance, channel", answer(() -> x.chance(true, v, 0, 1)), INDEX);
            due("share, channel", answer(() -> x.share(v)), INDEX);
            due("tile", answer(() -> x.plain(v)), INDEX);
        }
        int coded = x.told(1);
        for (int v : new int[] {0, 1, -1 - coded, Integer.MIN_VALUE, Integer.MAX_VALUE - coded}) {
            due("a coded byte", answer(() -> x.byteAt(coded + v)), INDEX);
        }
        for (int v : new int[] {4, 5, -1, Integer.MIN_VALUE, Integer.MAX_VALUE}) {
            due("a byte to be read", answer(() -> x.poke(v, 1)), INDEX);
        }
    }

    private static void noSuchNumber() {
        sentence("IllegalArgument: another number is none that is told");
        MixedPredict x = used();
        for (int v : new int[] {4, 5, 255, -1, Integer.MIN_VALUE, Integer.MAX_VALUE}) {
            due("put, a sample", answer(() -> x.put(0, 0, 0, v)), ARGUMENT);
            due("chance, class", answer(() -> x.chance(true, 0, v, 1)), ARGUMENT);
            due("chance, node", answer(() -> x.chance(true, 0, 0, v)), ARGUMENT);
        }
        due("chance, node 0", answer(() -> x.chance(false, 0, 0, 0)), ARGUMENT);
        for (int v : new int[] {256, 257, 65536, -1, Integer.MIN_VALUE, Integer.MAX_VALUE}) {
            due("feed", answer(() -> x.feed(v)), ARGUMENT);
            due("poke", answer(() -> x.poke(0, v)), ARGUMENT);
        }
    }

    private static void moreThanThereMayBe() {
        sentence("UnsupportedOperation: there would be more than there may be");
        MixedPredict x = full(0);
        due("feed", answer(() -> x.feed(1)), UNSUPPORTED);
        due("pass", answer(() -> x.pass()), UNSUPPORTED);
    }

    private static void theFirstOneNamed() {
        sentence("Of several that a call names, the first one");
        MixedPredict x = used();
        due("put, place and sample", answer(() -> x.put(9, 0, 0, 4)), INDEX);
        due("put, row and sample", answer(() -> x.put(0, 1, 0, -1)), INDEX);
        due("put, channel and sample", answer(() -> x.put(0, 0, 2, 4)), INDEX);
        due("chance, channel and class", answer(() -> x.chance(true, 2, 4, 1)), INDEX);
        due("chance, channel and node", answer(() -> x.chance(true, -1, 0, 0)), INDEX);
        due("chance, all three", answer(() -> x.chance(false, 2, -1, 4)), INDEX);
        due("poke, place and mask", answer(() -> x.poke(4, 256)), INDEX);
        due("poke, place and mask below", answer(() -> x.poke(-1, -1)), INDEX);
        MixedPredict full = full(0);
        due("feed, byte and room", answer(() -> full.feed(256)), ARGUMENT);
        due("feed, byte below and room", answer(() -> full.feed(-1)), ARGUMENT);
    }

    private static void aRefusedCallChangesNothing() {
        sentence("A call that throws changes nothing");
        MixedPredict x = used();
        Call[] refused = {
            () -> x.put(9, 0, 0, 3), () -> x.put(0, 0, 0, 4), () -> x.put(0, 0, 0, -1), () -> x.put(-1, 0, 1, 3)};
        unchanged(x, refused);
        MixedPredict y = used();
        Call[] more = {
            () -> y.at(9, 0, 0), () -> y.predicted(0, 0, 0, 9), () -> y.byteAt(-1), () -> y.plain(2),
            () -> y.weight(9), () -> y.chance(true, 0, 4, 1), () -> y.share(2)};
        unchanged(y, more);
        MixedPredict z = used();
        Call[] last = {() -> z.feed(256), () -> z.feed(-1), () -> z.poke(4, 1), () -> z.poke(0, 256)};
        unchanged(z, last);
        MixedPredict full = full(3);
        answer(() -> full.feed(1));
        answer(() -> full.pass());
        due("still full", full.told(2), MOST_UNREAD);
        due("the last one stays", full.poke(MOST_UNREAD - 1, 0), 0);
        due("what was coded stays", full.told(1), 784);
        MixedPredict part = full(3);
        part.decode();
        part.feed(5);
        for (int i = 1; i <= 5; i++) {
            part.pass();
        }
        for (int i = 3921; i < 3950; i++) {
            part.feed(6);
        }
        due("no room for all", answer(() -> part.pass()), UNSUPPORTED);
        due("not even a part", part.told(2), 3950);
        due("one more has room", part.feed(8), 3951);
        due("behind the others", part.poke(3950, 0), 8);
    }

    private static void unchanged(MixedPredict x, Call[] refused) {
        String before = state(x);
        for (Call call : refused) {
            due("it throws", String.valueOf(answer(call)).startsWith("throws."), true);
        }
        due("all that can be asked", state(x), before);
    }

    private static String state(MixedPredict x) {
        StringBuilder all = new StringBuilder();
        for (int what = 0; what < 7; what++) {
            all.append(x.told(what)).append(' ');
        }
        for (int i = 0; i < 18; i++) {
            all.append(x.at(i / 2, 0, i % 2)).append(' ');
        }
        for (int i = 0; i < x.told(1); i++) {
            all.append(x.byteAt(i)).append(' ');
        }
        for (int i = 0; i < x.told(2); i++) {
            all.append(x.poke(i, 0)).append(' ');
        }
        for (int i = 0; i < 24; i++) {
            all.append(x.chance(true, i / 12, i / 3 % 4, 1 + i % 3)).append(' ');
            all.append(x.chance(false, i / 12, i / 3 % 4, 1 + i % 3)).append(' ');
        }
        for (int way = 0; way < 9; way++) {
            all.append(x.weight(way)).append(' ');
        }
        all.append(x.share(0)).append(' ').append(x.share(1)).append(' ');
        return all.append(x.plain(0)).append(x.plain(1)).toString();
    }

    private static void newObject() {
        sentence("A picture of this width and height .. its samples are 0");
        MixedPredict x = new MixedPredict(16, 16, 8, 3);
        due("none is another one than 0", x.paint(0, 0), 0);
        due("nothing is coded", x.told(1), 0);
        due("nothing is to be read", x.told(2), 0);
        MixedPredict y = new MixedPredict(1, 1, 1, 1);
        due("nor in the least one", y.at(0, 0, 0), 0);
    }

    private static void whetherItWasAnother() {
        sentence("A sample: whether it was another one");
        MixedPredict x = new MixedPredict(16, 16, 8, 3);
        due("0 was 0", x.put(15, 15, 2, 0), false);
        due("the greatest was 0", x.put(15, 15, 2, 255), true);
        due("it was the same", x.put(15, 15, 2, 255), false);
        due("one less", x.put(15, 15, 2, 254), true);
        due("there it is", x.at(15, 15, 2), 254);
        due("0 was another", x.put(15, 15, 2, 0), true);
        due("the first place", x.put(0, 0, 0, 1), true);
        due("no other one", x.paint(0, 0), 1);
    }

    private static void paintsInOrder() {
        sentence("All samples, in the order of places, then channels");
        MixedPredict x = new MixedPredict(10, 9, 8, 2);
        x.paint(0, 1);
        for (int i = 0; i < 180; i++) {
            due("the sample " + i + ", not by tiles", x.at(i / 2 % 10, i / 20, i % 2), i);
        }
    }

    private static void paintsRests() {
        sentence("the first one is v, each next one the step more, as their rests by 2^bits");
        MixedPredict x = new MixedPredict(4, 1, 3, 1);
        x.paint(5, 1);
        samples("around the end", x, 5, 6, 7, 0);
        x.paint(2, -1);
        samples("below 0", x, 2, 1, 0, 7);
        x.paint(8, 8);
        samples("whole 2^bits", x, 0, 0, 0, 0);
        x.paint(-1, -8);
        samples("-1", x, 7, 7, 7, 7);
        x.paint(Integer.MAX_VALUE, 1);
        samples("beyond the greatest int", x, 7, 0, 1, 2);
        x.paint(Integer.MIN_VALUE, -1);
        samples("below the least int", x, 0, 7, 6, 5);
        x.paint(Integer.MAX_VALUE, Integer.MAX_VALUE);
        samples("wild", x, 7, 6, 5, 4);
        x.paint(Integer.MIN_VALUE + 3, Integer.MIN_VALUE);
        samples("wild below", x, 3, 3, 3, 3);
    }

    private static void paintsHowMany() {
        sentence("how many are other ones");
        MixedPredict x = new MixedPredict(16, 16, 8, 3);
        due("none", x.paint(0, 0), 0);
        due("all but one by 256", x.paint(0, 1), 765);
        due("none again", x.paint(0, 1), 0);
        due("none, as rests", x.paint(256, 257), 0);
        due("all", x.paint(1, 1), 768);
        due("from the other end", x.paint(1, 0), 765);
        due("one", new MixedPredict(1, 1, 1, 1).paint(3, 0), 1);
    }

    private static void aSample() {
        sentence("A sample");
        MixedPredict x = new MixedPredict(16, 16, 8, 3);
        x.put(15, 0, 0, 11);
        x.put(0, 15, 0, 22);
        x.put(0, 0, 2, 33);
        due("the last column", x.at(15, 0, 0), 11);
        due("the last row", x.at(0, 15, 0), 22);
        due("the last channel", x.at(0, 0, 2), 33);
        due("next to them", x.at(0, 1, 0) + x.at(14, 0, 0) + x.at(0, 0, 1) + x.at(1, 0, 0), 0);
    }

    private static void whatIsExpected() {
        sentence("What is expected of a sample by a way");
        MixedPredict x = picture(3, 2, 4, 1, 5, 8, 15, 3, 9, 0);
        ways("of what is there now", x, 1, 1, 0, 3, 8, 5, 15, 6, 5, 4, 7, 8);
        x.put(0, 1, 0, 1);
        ways("and now", x, 1, 1, 0, 1, 8, 5, 15, 4, 4, 2, 6, 8);
        x.encode();
        x.put(1, 1, 0, 0);
        ways("not by the sample itself, nor by what was coded", x, 1, 1, 0, 1, 8, 5, 15, 4, 4, 2, 6, 8);
        due("the last way", answer(() -> x.predicted(2, 1, 0, 8)), 8);
    }

    private static void howManyBytes() {
        sentence("The picture is coded: how many bytes that is");
        MixedPredict least = new MixedPredict(1, 1, 8, 3);
        due("three samples of eight bits, as they are", least.encode(), 7);
        due("the least", new MixedPredict(1, 1, 1, 1).encode(), 5);
        due("the most", noise().encode(), 784);
        MixedPredict x = picture(9, 1, 8, 1, 0, 0, 0, 0, 0, 0, 0, 0, 3);
        due("as many as can be asked for", x.encode(), x.told(1));
        due("the sum of both tiles", x.told(1), 4 + x.byteAt(1) + 5);
    }

    private static void codedAnew() {
        sentence("The picture is coded");
        MixedPredict x = picture(1, 1, 8, 1, 7);
        x.encode();
        x.put(0, 0, 0, 9);
        due("again", x.encode(), 5);
        codedTile("in place of what was coded before", x, 0, 9);
        due("its sample stays", x.at(0, 0, 0), 9);
        MixedPredict y = new MixedPredict(8, 8, 4, 3);
        y.paint(3, 0);
        int coded = y.encode();
        due("a second time the same", y.encode(), coded);
        due("all samples stay", y.paint(3, 0), 0);
        y.feed(3);
        y.encode();
        due("bytes to be read stay", y.told(2) * 1000 + y.poke(0, 0), 1003);
    }

    private static void aByteOfWhatWasCoded() {
        sentence("A byte of what was coded");
        MixedPredict x = picture(2, 1, 8, 1, 200, 255);
        due("before", answer(() -> x.byteAt(0)), INDEX);
        x.encode();
        due("the first", x.byteAt(0), 0);
        due("the last", x.byteAt(5), 255);
        due("behind it", answer(() -> x.byteAt(6)), INDEX);
        x.put(1, 0, 0, 1);
        due("it stays, when a sample changes", x.byteAt(5), 255);
        x.pass();
        x.poke(5, 255);
        due("it stays, when a byte to be read changes", x.byteAt(5), 255);
        x.decode();
        due("it stays, when that is read", x.byteAt(5), 255);
    }

    private static MixedPredict twoTiles() {
        MixedPredict x = new MixedPredict(16, 3, 8, 1);
        x.paint(100, 0);
        return x;
    }

    private static void plainBefore() {
        sentence("Whether a tile was told as it is, at the latest encode(); false before");
        MixedPredict x = twoTiles();
        due("tile 0", x.plain(0), false);
        due("tile 1", x.plain(1), false);
        feedTile(x, 0, new int[24]);
        feedTile(x, 0, new int[24]);
        due("both are read as they are", x.decode(), 48);
        due("still tile 0", x.plain(0), false);
        due("still tile 1", x.plain(1), false);
    }

    private static void plainAtTheLatest() {
        sentence("at the latest encode()");
        MixedPredict x = twoTiles();
        for (int i = 0; i < 24; i++) {
            x.put(8 + i % 8, i / 8, 0, i * i * 37 & 255);
        }
        x.encode();
        due("tile 0", x.plain(0), false);
        due("tile 1", x.plain(1), true);
        x.paint(100, 0);
        due("not yet", x.plain(1), true);
        x.encode();
        due("now it is not", x.plain(1), false);
        for (int i = 0; i < 24; i++) {
            x.put(i % 8, i / 8, 0, i * i * 37 & 255);
        }
        due("not yet, tile 0", x.plain(0), false);
        x.encode();
        due("tile 0 now", x.plain(0), true);
        due("tile 1 still not", x.plain(1), false);
        due("no tile 2", answer(() -> x.plain(2)), INDEX);
    }

    private static void weightBefore() {
        sentence("A way's weight .. 256 before");
        MixedPredict x = picture(2, 1, 8, 1, 200, 100);
        weights("not coded yet", x, 256, 256, 256, 256, 256, 256, 256, 256, 256);
        feedTile(x, 1, 9, 9, 9);
        x.decode();
        weights("read, not coded", x, 256, 256, 256, 256, 256, 256, 256, 256, 256);
    }

    private static void weightBehindTheLastTile() {
        sentence("A way's weight behind the last tile of the latest encode()");
        MixedPredict x = picture(10, 1, 8, 1, 200, 100, 1, 2, 3, 4, 5, 6, 130, 200);
        x.encode();
        weights("told as it is, but learnt", x, 264, 248, 248, 248, 264, 256, 264, 256, 248);
        x.put(9, 0, 0, 0);
        weights("of what was coded", x, 264, 248, 248, 248, 264, 256, 264, 256, 248);
        feedTile(x, 1, 9, 9, 9);
        feedTile(x, 1, 200);
        due("others are read", x.decode(), 10);
        weights("not of what was read", x, 264, 248, 248, 248, 264, 256, 264, 256, 248);
        x.paint(128, 0);
        x.encode();
        weights("of the latest", x, 256, 256, 256, 256, 256, 256, 256, 256, 256);
    }

    private static void chanceBefore() {
        sentence("The first (or second) chance by channel, class (texture or past), node .. 32768 before");
        MixedPredict x = picture(2, 1, 2, 2, 3, 0, 1, 2);
        feedTile(x, 1, 77);
        x.decode();
        for (int i = 0; i < 24; i++) {
            due("first", x.chance(true, i / 12, i / 3 % 4, 1 + i % 3), 32768);
            due("second", x.chance(false, i / 12, i / 3 % 4, 1 + i % 3), 32768);
        }
    }

    private static void chanceBehindTheLastTile() {
        sentence("behind the last tile of the latest encode()");
        MixedPredict x = new MixedPredict(9, 1, 1, 2);
        x.paint(0, 1);
        x.put(8, 0, 1, 0);
        x.encode();
        due("channel 0, 1 missed by 1", x.chance(true, 0, 0, 1), 34815);
        due("channel 0, second", x.chance(false, 0, 0, 1), 33791);
        due("channel 1, once 1 too", x.chance(true, 1, 0, 1), 34815);
        feedTile(x, 1, 255, 255);
        feedTile(x, 1, 255);
        due("others are read", x.decode(), 18);
        due("not of what was read", x.chance(true, 0, 0, 1), 34815);
        x.paint(1, 0);
        x.encode();
        due("of the latest", x.chance(true, 0, 0, 1), 30720);
        due("of the latest, second", x.chance(false, 1, 0, 1), 31744);
    }

    private static void chancesChannel() {
        sentence("IndexOutOfBounds: the channel");
        for (int channels = 1; channels <= 3; channels++) {
            MixedPredict x = new MixedPredict(1, 1, 1, channels);
            int beyond = channels;
            due("the last", answer(() -> x.chance(true, beyond - 1, 3, 1)), 32768);
            due("one further", answer(() -> x.chance(true, beyond, 3, 1)), INDEX);
            due("one before", answer(() -> x.chance(false, -1, 0, 1)), INDEX);
        }
    }

    private static void chancesClassAndNode() {
        sentence("IllegalArgument: the class is not 0 .. 3, or the node not 1 .. 2^bits - 1");
        for (int bits = 1; bits <= 8; bits++) {
            MixedPredict x = new MixedPredict(1, 1, bits, 1);
            int beyond = 1 << bits;
            due("the last node", answer(() -> x.chance(true, 0, 3, beyond - 1)), 32768);
            due("one further", answer(() -> x.chance(true, 0, 3, beyond)), ARGUMENT);
            due("one further, second", answer(() -> x.chance(false, 0, 3, beyond)), ARGUMENT);
            due("the first node", answer(() -> x.chance(true, 0, 0, 1)), 32768);
            due("one before", answer(() -> x.chance(true, 0, 0, 0)), ARGUMENT);
            due("the last class", answer(() -> x.chance(false, 0, 3, 1)), 32768);
            due("a class further", answer(() -> x.chance(false, 0, 4, 1)), ARGUMENT);
            due("a class before", answer(() -> x.chance(false, 0, -1, 1)), ARGUMENT);
        }
    }

    private static void shareBefore() {
        sentence("A channel's share behind that tile; 32 before");
        MixedPredict x = new MixedPredict(8, 8, 1, 3);
        feedTile(x, 1, 5);
        x.decode();
        for (int channel = 0; channel < 3; channel++) {
            due("channel " + channel, x.share(channel), 32);
        }
        due("no channel 3", answer(() -> x.share(3)), INDEX);
        due("no channel -1", answer(() -> x.share(-1)), INDEX);
        due("no channel 1 of one", answer(() -> new MixedPredict(1, 1, 1, 1).share(1)), INDEX);
    }

    private static void shareBehindThatTile() {
        sentence("A channel's share behind that tile");
        MixedPredict x = picture(12, 1, 1, 2, 0, 0, 0, 0, 0, 0, 0, 0, 0, 0, 0, 0, 0, 0, 0, 0, 1, 0, 1, 0, 1, 1, 1, 1);
        x.encode();
        due("channel 0: the bits 0, 0, 0, 0", x.share(0), 35);
        due("channel 1: the bits 1, 0, 1, 0", x.share(1), 29);
        feedTile(x, 1, 255, 255, 255);
        feedTile(x, 1, 255, 255);
        due("others are read", x.decode(), 24);
        due("not of what was read", x.share(1), 29);
    }

    private static void fedBytes() {
        sentence("A byte comes behind those that are to be read: how many. IllegalArgument: it is not 0 .. 255");
        MixedPredict x = new MixedPredict(1, 1, 1, 1);
        due("the least", x.feed(0), 1);
        due("the greatest", x.feed(255), 2);
        due("one more", answer(() -> x.feed(256)), ARGUMENT);
        due("one less", answer(() -> x.feed(-1)), ARGUMENT);
        due("the next", x.feed(128), 3);
        due("in their order", x.poke(0, 0) * 65536 + x.poke(1, 0) * 256 + x.poke(2, 0), 255 * 256 + 128);
    }

    private static void fedFull() {
        sentence("UnsupportedOperation: there are 4000");
        MixedPredict x = full(1);
        due("the 4001st", answer(() -> x.feed(0)), UNSUPPORTED);
        due("once more", answer(() -> x.feed(255)), UNSUPPORTED);
        due("4000 stay", x.told(2), MOST_UNREAD);
        due("all tiles are good", x.decode(), 768);
        due("room again", x.feed(0), 1);
    }

    private static void passesAll() {
        sentence("All bytes that were coded come behind those that are to be read: how many there are then");
        MixedPredict x = picture(1, 1, 8, 1, 44);
        due("none was coded, none is there", x.pass(), 0);
        x.feed(9);
        due("none was coded", x.pass(), 1);
        x.encode();
        due("behind it", x.pass(), 6);
        int[] want = {9, 0, 1, 0, 165 ^ 1 ^ 44, 44};
        for (int i = 0; i < want.length; i++) {
            due("byte " + i, x.poke(i, 0), want[i]);
        }
        due("what was coded stays", x.told(1), 5);
        due("and comes again", x.pass(), 11);
    }

    private static void passesUpTo4000() {
        sentence("UnsupportedOperation: above 4000");
        MixedPredict x = picture(4, 4, 8, 1, 0, 77, 154, 231, 52, 129, 206, 27, 104, 181, 2, 79, 156, 233, 54, 131);
        due("twenty bytes", x.encode(), 20);
        for (int i = 1; i < 200; i++) {
            x.pass();
        }
        due("just 4000", answer(() -> x.pass()), MOST_UNREAD);
        due("more", answer(() -> x.pass()), UNSUPPORTED);
        due("4000 stay", x.told(2), MOST_UNREAD);
        due("just 4000, with others", passBehind(80), MOST_UNREAD);
        due("4001", passBehind(81), UNSUPPORTED);
        MixedPredict full = full(0);
        full.clear();
        due("none to none", full.pass(), 0);
        MixedPredict nothing = new MixedPredict(1, 1, 1, 1);
        for (int i = 0; i < 500; i++) {
            nothing.feed(0);
        }
        due("none to some", nothing.pass(), 500);
    }

    /** Behind four times 784 bytes and these 784 more. */
    private static Object passBehind(int fed) {
        MixedPredict x = noise();
        x.encode();
        for (int i = 0; i < 4; i++) {
            x.pass();
        }
        for (int i = 0; i < fed; i++) {
            x.feed(0);
        }
        return answer(() -> x.pass());
    }

    private static void pokes() {
        sentence("A byte that is to be read changes by exclusive or with a mask: the byte then");
        MixedPredict x = new MixedPredict(1, 1, 8, 1);
        due("none is there", answer(() -> x.poke(0, 0)), INDEX);
        feed(x, 0xa5, 0x0f);
        due("no bit", x.poke(0, 0), 0xa5);
        due("all bits", x.poke(0, 255), 0x5a);
        due("it stays so", x.poke(0, 0), 0x5a);
        due("twice is none", x.poke(0, 255), 0xa5);
        due("the last one", x.poke(1, 1), 0x0e);
        due("behind it", answer(() -> x.poke(2, 1)), INDEX);
        due("a mask above", answer(() -> x.poke(1, 256)), ARGUMENT);
        due("a mask below", answer(() -> x.poke(1, -1)), ARGUMENT);
        x.encode();
        x.pass();
        due("a byte that was passed", x.poke(6, 3), 3);
        due("not what was coded", x.byteAt(4), 0);
    }

    private static void readAndGone() {
        sentence("What is to be read is read, and goes");
        MixedPredict x = new MixedPredict(2, 1, 2, 1);
        due("nothing", x.decode(), -1);
        feedTile(x, 0, 3, 2);
        due("a good tile", x.decode(), 2);
        due("it is gone", x.told(2), 0);
        due("none to poke", answer(() -> x.poke(0, 0)), INDEX);
        due("nothing is left", x.decode(), -1);
        samples("what was read stays", x, 3, 2);
        feed(x, 7);
        due("a bad one", x.decode(), -1);
        due("it is gone too", x.told(2), 0);
        x.encode();
        due("what was coded does not go", x.pass(), 6);
        due("and is read", x.decode(), 2);
        due("as long as one likes", x.told(1), 6);
    }

    private static void upToTheFirstBad() {
        sentence("tiles that are good are the picture's, up to the first one that is bad");
        int[] corners = {0, 8, 8 * 16, 8 * 17};
        for (int badTile = 0; badTile <= 4; badTile++) {
            MixedPredict x = new MixedPredict(16, 9, 8, 1);
            x.paint(9, 0);
            for (int tile = 0; tile < 4; tile++) {
                int[] samples = new int[tile < 2 ? 64 : 8];
                samples[0] = 100 + tile;
                feedTile(x, tile == badTile ? 2 : 0, samples);
            }
            due("bad is " + badTile, x.decode(), badTile == 4 ? 144 : -1 - badTile);
            for (int tile = 0; tile < 4; tile++) {
                int due = tile < badTile ? 100 + tile : 9;
                due("bad is " + badTile + ", tile " + tile, x.at(corners[tile] % 16, corners[tile] / 16, 0), due);
            }
            due("all is gone", x.told(2), 0);
        }
    }

    private static void howManySamples() {
        sentence("how many samples, or, with a bad one, -1 less its number");
        MixedPredict most = noise();
        most.encode();
        most.pass();
        due("the most", most.decode(), 768);
        MixedPredict least = new MixedPredict(1, 1, 1, 1);
        feedTile(least, 0, 1);
        due("the least", least.decode(), 1);
        due("the first is bad", least.decode(), -1);
        int[][] sizes = {{16, 8}, {8, 16}, {16, 16}};
        for (int[] size : sizes) {
            MixedPredict x = new MixedPredict(size[0], size[1], 1, 3);
            int tiles = x.told(0);
            for (int tile = 1; tile < tiles; tile++) {
                feedTile(x, 1, 1, 2, 3);
            }
            due("the last one lacks", x.decode(), -tiles);
            for (int tile = 0; tile < tiles; tile++) {
                feedTile(x, 1, 1, 2, 3);
            }
            due("none lacks", x.decode(), size[0] * size[1] * 3);
        }
    }

    private static void passedOver() {
        sentence("Bytes behind the last tile are passed over");
        MixedPredict x = new MixedPredict(2, 1, 2, 1);
        feedTile(x, 0, 1, 2);
        feed(x, 255);
        due("one byte", x.decode(), 2);
        due("it is gone", x.told(2), 0);
        feedTile(x, 0, 2, 1);
        feedTile(x, 0, 3, 3);
        due("a whole tile", x.decode(), 2);
        samples("not that one's", x, 2, 1);
        due("it is gone, too", x.decode(), -1);
        feedTile(x, 1, 0x80);
        feed(x, 255, 255, 255, 255);
        due("behind an interval", x.decode(), 2);
        samples("not the interval's", x, 1, 3);
    }

    private static void toldNumbers() {
        sentence("Tiles (what = 0), bytes coded (1), bytes to be read (2), width, height, bits, channels (3 to 6)");
        MixedPredict x = new MixedPredict(9, 16, 7, 2);
        int coded = x.encode();
        x.feed(0);
        x.pass();
        int[] want = {4, coded, 1 + coded, 9, 16, 7, 2};
        for (int what = 0; what < want.length; what++) {
            due("what = " + what, x.told(what), want[what]);
        }
    }

    private static void toldNone() {
        sentence("NONE for another what");
        MixedPredict x = used();
        for (int what : new int[] {7, 8, -1, -2, 256, Integer.MIN_VALUE, Integer.MAX_VALUE}) {
            due("what = " + what, x.told(what), MixedPredict.NONE);
        }
    }

    private static void asAtFirst() {
        sentence("All is as at first");
        MixedPredict x = used();
        x.pass();
        x.clear();
        due("all that can be asked", state(x), state(new MixedPredict(9, 1, 2, 2)));
        x.clear();
        due("twice", x.told(1) + x.told(2), 0);
        due("nothing to be read", x.decode(), -1);
        due("nothing to pass", x.pass(), 0);
        due("samples are 0", x.paint(0, 0), 0);
        MixedPredict full = full(0);
        full.clear();
        due("room for bytes", full.feed(3), 1);
        due("none is plain", full.plain(0) || full.plain(1) || full.plain(2) || full.plain(3), false);
        due("sizes stay", full.told(3) * 10000 + full.told(4) * 100 + full.told(5) * 10 + full.told(6), 161683);
    }
}
