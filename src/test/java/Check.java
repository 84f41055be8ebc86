import java.nio.charset.StandardCharsets;

/** What the tests share: answers that are due, exceptions that are due, and texts that are fed. */
final class Check {
    interface Call {
        double answer();
    }

    private static final int FEED = 20;
    private static int wrong = 0;
    private static String about = "";

    private Check() {
    }

    /** What stands ahead of the faults that are told from now on. */
    static void about(String sentence) {
        about = sentence;
    }

    static void due(String call, double got, double want) {
        if (got != want) {
            fault(call + " answered " + got + ", due is " + want);
        }
    }

    static void thrown(String call, Class<?> want, Call made) {
        String got = "nothing";
        try {
            made.answer();
        } catch (RuntimeException e) {
            got = e.getClass().getName();
        }
        if (!got.equals(want.getName())) {
            fault(call + " threw " + got + ", due is " + want.getName());
        }
    }

    static void fault(String what) {
        wrong++;
        System.out.println(about + what);
    }

    static int wrongs() {
        return wrong;
    }

    /** Ends the test as .ci/run wants it. */
    static void end() {
        System.out.println(wrong == 0 ? "all answers are as due" : wrong + " answers are not as due");
        if (wrong != 0) {
            System.exit(1);
        }
    }

    /** The parameters of feed() for the 20 bytes from an index on; behind the end, blanks. */
    static int[] twentyFrom(byte[] bytes, int from) {
        int[] five = new int[5];
        for (int i = 0; i < FEED; i++) {
            int one = from + i < bytes.length ? bytes[from + i] & 255 : ' ';
            five[i / 4] = five[i / 4] << 8 | one;
        }
        return five;
    }

    static void feedBytes(MuleTrain train, byte[] bytes) {
        for (int from = 0; from < bytes.length; from += FEED) {
            int[] five = twentyFrom(bytes, from);
            train.feed(five[0], five[1], five[2], five[3], five[4]);
        }
    }

    static byte[] bytesOf(String text) {
        return text.getBytes(StandardCharsets.ISO_8859_1);
    }

    static int load(MuleTrain train, String text) {
        byte[] bytes = bytesOf(text);
        feedBytes(train, bytes);
        return train.load(bytes.length);
    }

    static MuleTrain loaded(String text) {
        MuleTrain train = new MuleTrain();
        load(train, text);
        return train;
    }

    /** The text has an error where the sign ^ stands in it. */
    static void error(int code, String marked) {
        int position = marked.indexOf('^');
        String text = marked.substring(0, position) + marked.substring(position + 1);
        MuleTrain train = new MuleTrain();
        String before = all(train);
        thrown("load of [" + text + "]", IllegalStateException.class, () -> load(train, text));
        due("errorCode() behind [" + text + "]", train.errorCode(), code);
        due("errorPosition() behind [" + text + "]", train.errorPosition(), position);
        if (!all(train).equals(before)) {
            fault("[" + text + "] changed the train");
        }
    }

    static void output(String call, MuleTrain train, int length, String want) {
        StringBuilder got = new StringBuilder();
        for (int i = 0; i < length; i++) {
            got.append((char) train.outputByte(i));
        }
        if (!got.toString().equals(want)) {
            fault(call + " wrote [" + got + "], due is [" + want + "]");
        }
        due(call + " length", length, want.length());
        thrown("outputByte(" + length + ") behind " + call, IndexOutOfBoundsException.class, () -> train.outputByte(length));
    }

    /** Some of what changes, in few calls, as a train is used for 512 at most. */
    static String brief(MuleTrain t) {
        StringBuilder brief = new StringBuilder();
        for (int what = 1; what <= 8; what++) {
            brief.append(t.value(what)).append(' ');
        }
        for (int which = 0; which <= 2; which++) {
            brief.append(t.setting(which)).append(' ');
        }
        for (int mule = 0; mule < t.value(0); mule++) {
            brief.append(t.mule(mule, 1)).append(' ').append(t.mule(mule, 4)).append(' ').append(t.mule(mule, 5)).append(' ');
        }
        return brief.toString();
    }

    /** Everything that can be asked, as one text: two trains are alike if it is. */
    static String all(MuleTrain t) {
        StringBuilder all = new StringBuilder();
        for (int what = 0; what <= 9; what++) {
            all.append(t.value(what)).append(' ');
        }
        for (int which = 0; which <= 2; which++) {
            all.append(t.setting(which)).append(' ');
        }
        for (int what = 0; what <= 6; what++) {
            all.append(t.count(what)).append(' ');
        }
        for (int mule = 0; mule < t.value(0); mule++) {
            for (int what = 0; what <= 9; what++) {
                all.append(t.mule(mule, what)).append(' ');
            }
            for (int index = 0; index < t.mule(mule, 9); index++) {
                all.append((char) t.nameByte(mule, index));
            }
            all.append(' ');
        }
        for (int sack = 0; sack < t.value(1); sack++) {
            for (int what = 0; what <= 7; what++) {
                all.append(t.sack(sack, what)).append(' ');
            }
        }
        for (int stage = 0; stage < t.value(6); stage++) {
            all.append(t.stage(stage, 0)).append(' ').append(t.stage(stage, 1)).append(' ');
        }
        return all.toString();
    }
}
