/** What the tests have in common: calls, what they answer, and what is due. */
abstract class Check {
    interface Call {
        Object answer();
    }

    static final String INDEX = "throws.IndexOutOfBoundsException";
    static final String ARGUMENT = "throws.IllegalArgumentException";
    static final String UNSUPPORTED = "throws.UnsupportedOperationException";
    static final int MOST_UNREAD = 4000;
    static final int[] WILD = {Integer.MIN_VALUE, -1, Integer.MAX_VALUE};

    private static int wrong = 0;
    private static int sentences = 0;
    private static String sentence = "";

    /** The sentence of the document that what follows would show to be broken. */
    static void sentence(String words) {
        sentence = "\"" + words + "\": ";
        sentences++;
    }

    static void due(String what, Object got, Object want) {
        if (!want.equals(got)) {
            wrong++;
            System.out.println(sentence + what + ": answered " + got + ", due is " + want);
        }
    }

    static void end(String test) {
        String which = sentences == 0 ? "" : sentences + " sentences, ";
        System.out.println(test + ": " + which + (wrong == 0 ? "all as due" : wrong + " not as due"));
        if (wrong != 0) {
            System.exit(1);
        }
    }

    static Object answer(Call call) {
        try {
            return call.answer();
        } catch (RuntimeException e) {
            return "throws." + e.getClass().getSimpleName();
        }
    }

    /** With these samples, in the order of places, then channels: those that are not named are 0. */
    static MixedPredict picture(int width, int height, int bits, int channels, int... samples) {
        MixedPredict x = new MixedPredict(width, height, bits, channels);
        for (int i = 0; i < samples.length; i++) {
            x.put(i / channels % width, i / channels / width, i % channels, samples[i]);
        }
        return x;
    }

    /** All its tiles will be told as they are: 784 bytes. */
    static MixedPredict noise() {
        MixedPredict x = new MixedPredict(16, 16, 8, 3);
        x.paint(0, 89);
        for (int i = 0; i < 380; i++) {
            x.put(i % 16, i / 16 % 16, i % 3, i * i * 37 + i / 5 * 91 & 255);
        }
        return x;
    }

    /** With 4000 bytes to be read: behind five times all tiles this number, the last one 0. */
    static MixedPredict full(int b) {
        MixedPredict x = noise();
        due("most bytes", x.encode(), 784);
        for (int i = 1; i <= 5; i++) {
            due("bytes passed", x.pass(), i * 784);
        }
        for (int i = 3921; i < MOST_UNREAD; i++) {
            x.feed(b);
        }
        due("the last one that has room", x.feed(0), MOST_UNREAD);
        return x;
    }

    static void samples(String what, MixedPredict x, int... want) {
        int width = x.told(3);
        int channels = x.told(6);
        for (int i = 0; i < want.length; i++) {
            due(what + ", sample " + i, x.at(i / channels % width, i / channels / width, i % channels), want[i]);
        }
    }

    static void feed(MixedPredict x, int... bytes) {
        for (int b : bytes) {
            x.feed(b);
        }
    }

    /** A tile's bytes, with the length and the sum that are right for what follows. */
    static void feedTile(MixedPredict x, int first, int... follow) {
        feed(x, first, follow.length & 255, follow.length >> 8, sum(follow));
        feed(x, follow);
    }

    static int sum(int... follow) {
        int sum = 165 ^ (follow.length & 255) ^ (follow.length >> 8);
        for (int b : follow) {
            sum ^= b;
        }
        return sum;
    }

    static void bytes(String what, MixedPredict x, int... want) {
        due(what + ", how many", x.told(1), want.length);
        for (int i = 0; i < want.length && i < x.told(1); i++) {
            due(what + ", byte " + i, x.byteAt(i), want[i]);
        }
    }

    /** One tile's bytes and nothing else. */
    static void codedTile(String what, MixedPredict x, int first, int... follow) {
        int[] want = new int[4 + follow.length];
        want[0] = first;
        want[1] = follow.length & 255;
        want[2] = follow.length >> 8;
        want[3] = sum(follow);
        System.arraycopy(follow, 0, want, 4, follow.length);
        bytes(what, x, want);
    }

    static void ways(String what, MixedPredict x, int column, int row, int channel, int... want) {
        for (int way = 0; way < 9; way++) {
            due(what + ", way " + way, x.predicted(column, row, channel, way), want[way]);
        }
    }

    static void weights(String what, MixedPredict x, int... want) {
        for (int way = 0; way < 9; way++) {
            due(what + ", weight " + way, x.weight(way), want[way]);
        }
    }
}
