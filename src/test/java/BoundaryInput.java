/** The boundaries of the promises 1 to 5: a new object and input. */
final class BoundaryInput extends Boundary {
    private static final int BLANKS = 0x20202020;

    static void run() {
        promise1NewObject();
        promise2TwentyBytes();
        promise2BytesOfEachValue();
        promise2NewLength();
        promise2BufferThatIsFull();
        promise3FirstBytes();
        promise3ReplacesEverything();
        promise3EverythingOfALoad();
        promise3OnlyTheOutputStays();
        promise3IsEmptied();
        promise3Lengths();
        promise3QuantityOfSacks();
        promise3LengthOutOfRange();
        promise3TextWithAnError();
        promise4Codes();
        promise4LatestCallThatParsed();
        promise4NoError();
        promise5Positions();
        promise5NoPosition();
    }

    private static void feedBlanks(MuleTrain train, int times) {
        for (int i = 0; i < times; i++) {
            train.feed(BLANKS, BLANKS, BLANKS, BLANKS, BLANKS);
        }
    }

    private static void feedText(MuleTrain train, String text) {
        Check.feedBytes(train, Check.bytesOf(text));
    }

    private static void promise1NewObject() {
        sentence("Promise 1", "Creates the train that is described above.");
        MuleTrain t = new MuleTrain();
        due("mules", t.value(0), 2);
        due("sacks", t.value(1), 5);
        due("stages", t.value(6), 3);
        due("changes that can be undone", t.value(10), 0);
        due("errorCode()", t.errorCode(), 0);
        due("errorPosition()", t.errorPosition(), -1);
        thrown(STATE, "undo()", () -> t.undo());
        thrown(STATE, "restore(0)", () -> t.restore(0));
        thrown(STATE, "restore(1)", () -> t.restore(1));
        due("the first feed", t.feed(BLANKS, BLANKS, BLANKS, BLANKS, BLANKS), 20);
    }

    private static void promise2TwentyBytes() {
        sentence("Promise 2", "Appends 20 bytes to the input buffer: the four bytes of each parameter in order, the most significant byte first.");
        for (int position = 0; position < 20; position++) {
            byte[] bytes = " ".repeat(20).getBytes();
            bytes[position] = 'A';
            MuleTrain t = new MuleTrain();
            feedBlanks(t, 1);
            int[] five = Check.twentyFrom(bytes, 0);
            t.feed(five[0], five[1], five[2], five[3], five[4]);
            thrown(STATE, "load(40)", () -> t.load(40));
            due("position of the byte " + position + " of the second feed", t.errorPosition(), 20 + position);
        }
        MuleTrain t = new MuleTrain();
        t.feed('t' << 24 | 'r' << 16 | 'a' << 8 | 'i', 'n' << 24 | ' ' << 16 | '9' << 8 | '8', ' ' << 24 | '4' << 16 | '7' << 8 | ' ', '3' << 24 | '6' << 16 | ';' << 8 | 'r', 'e' << 24 | 's' << 16 | 't' << 8 | ' ');
        t.feed('5' << 24 | '4' << 16 | ' ' << 8 | ' ', BLANKS, BLANKS, BLANKS, BLANKS);
        due("load of two feeds", t.load(40), 0);
        due("TILT", t.setting(0), 98);
        due("EASE", t.setting(1), 47);
        due("WAGE", t.setting(2), 36);
        due("DAY", t.value(7), 54);
    }

    private static void promise2BytesOfEachValue() {
        sentence("Promise 2", "the four bytes of each parameter in order");
        // 128 and above are no letters, digits or blanks, also where the lower seven bits would be one.
        for (int value : new int[] {0, 127, 128, 128 + ' ', 128 + '\n', 128 + '0', 128 + ';', 128 + 'a', 254, 255}) {
            MuleTrain t = new MuleTrain();
            feedText(t, "train 0 0 0");
            t.feed(value << 24 | 0x202020, BLANKS, BLANKS, BLANKS, BLANKS);
            thrown(STATE, "load of the byte " + value, () -> t.load(40));
            due("its code", t.errorCode(), 1);
            due("its position", t.errorPosition(), 20);
        }
        MuleTrain least = new MuleTrain();
        least.feed(BLANKS, LEAST, MOST, -1, 0);
        thrown(STATE, "load of LEAST", () -> least.load(20));
        due("the position of LEAST", least.errorPosition(), 4);
    }

    private static void promise2NewLength() {
        sentence("Promise 2", "Returns the new length of the buffer.");
        MuleTrain t = new MuleTrain();
        for (int length = 20; length <= 700; length += 20) {
            due("feed", t.feed(1, 2, 3, 4, 5), length);
        }
    }

    private static void promise2BufferThatIsFull() {
        sentence("Promise 2", "Throws `IllegalStateException` if the length would exceed 700; nothing is appended then");
        MuleTrain t = new MuleTrain();
        feedText(t, "train 1 2 3");
        feedBlanks(t, 33);
        due("the 35th feed", t.feed(BLANKS, BLANKS, BLANKS, BLANKS, BLANKS), 700);
        thrown(STATE, "the 36th feed", () -> t.feed('A', 'A', 'A', 'A', 'A'));
        thrown(STATE, "the 37th feed", () -> t.feed('A', 'A', 'A', 'A', 'A'));
        thrown(ARGUMENT, "load(701)", () -> t.load(701));
        thrown(ARGUMENT, "load(720)", () -> t.load(720));
        due("load(700)", t.load(700), 0);
        due("TILT behind it", t.setting(0), 1);
        due("feed behind it", t.feed(1, 2, 3, 4, 5), 20);
    }

    private static void promise3FirstBytes() {
        sentence("Promise 3", "Parses the first length bytes of the buffer as a description.");
        String text = "train 12 34 50; rest 1";
        // A word that is cut off is another word, and its first byte is the position.
        int[][] due = {{11, 1, 11}, {12, 1, 12}, {13, 0, -1}, {14, 0, -1}, {15, 1, 15}, {16, 1, 16}, {17, 1, 16}, {19, 1, 16}, {20, 1, 20}, {21, 1, 21}, {22, 0, -1}};
        for (int[] each : due) {
            MuleTrain t = new MuleTrain();
            feedText(t, text);
            if (each[1] == 0) {
                due("load(" + each[0] + ")", t.load(each[0]), 0);
            } else {
                thrown(STATE, "load(" + each[0] + ")", () -> t.load(each[0]));
            }
            due("errorCode() of " + each[0], t.errorCode(), each[1]);
            due("errorPosition() of " + each[0], t.errorPosition(), each[2]);
        }
        MuleTrain t = new MuleTrain();
        feedText(t, text);
        t.load(13);
        due("WAGE of a number that is cut off", t.setting(2), 5);
    }

    private static void promise3ReplacesEverything() {
        sentence("Promise 3", "Without an error, it replaces everything; no change can be undone, and nothing is saved");
        MuleTrain t = new MuleTrain();
        t.save(0);
        t.save(1);
        t.trip();
        due("load of the least text", Check.load(t, "train 0 0 0"), 0);
        for (int what = 0; what <= 10; what++) {
            due("value(" + what + ")", t.value(what), 0);
        }
        for (int what = 0; what <= 6; what++) {
            due("count(" + what + ")", t.count(what), 0);
        }
        for (int which = 0; which <= 2; which++) {
            due("setting(" + which + ")", t.setting(which), 0);
        }
        thrown(STATE, "undo()", () -> t.undo());
        thrown(STATE, "restore(0)", () -> t.restore(0));
        thrown(STATE, "restore(1)", () -> t.restore(1));
        due("save(1)", t.save(1), 1);
        // What the lines of a text change is no change that can be undone.
        Check.load(t, "train 99 0 0;mule a 10;sack iron 1 1;pack 0 a left;trip;rest 1");
        due("changes behind lines", t.value(10), 0);
        thrown(STATE, "undo() behind lines", () -> t.undo());
    }

    private static void promise3EverythingOfALoad() {
        sentence("Promise 3", "it replaces everything");
        // What the lines of an earlier text did is not left over, whether that text had an error behind them or not.
        String done = "train 99 1 9;mule a 100;mule b 100;sack grain 90 9;sack glass 1 9;sack iron 1 1;road 9;ford 1;ford 5;pack 0 a left;pack 1 a right;trip;rest 2";
        for (String behind : new String[] {"", ";a", ";road 100"}) {
            MuleTrain t = new MuleTrain();
            if (behind.isEmpty()) {
                due("load of a text with a trip", Check.load(t, done), 3);
                due("TIRED", t.mule(0, 1), 7);
                due("MONEY", t.value(8), -9);
                due("DAY", t.value(7), 3);
            } else {
                thrown(STATE, "load of a text with a trip and an error", () -> Check.load(t, done + behind));
            }
            due("load of the next text", Check.load(t, "train 5 6 7;mule c 50;mule d 60;sack iron 3 4;sack iron 5 6;camp 1"), 2);
            due("TIRED of the first mule", t.mule(0, 1), 0);
            due("TIRED of the second mule", t.mule(1, 1), 0);
            due("letters of the first mule", t.mule(0, 9), 1);
            for (int sack = 0; sack <= 1; sack++) {
                due("PLACE of " + sack, t.sack(sack, 3), 0);
                due("DAY of " + sack, t.sack(sack, 6), MuleTrain.NONE);
            }
            int[] values = {2, 2, 2, 0, 0, 0, 1, 0, 0, 0, 0};
            for (int what = 0; what <= 10; what++) {
                due("value(" + what + ")", t.value(what), values[what]);
            }
            for (int what = 0; what <= 6; what++) {
                due("count(" + what + ")", t.count(what), 0);
            }
        }
    }

    private static void promise3OnlyTheOutputStays() {
        sentence("Promise 3", "only the output buffer stays");
        MuleTrain t = new MuleTrain();
        int length = t.writeWay();
        Check.load(t, "train 0 0 0");
        due("the first byte", t.outputByte(0), 'r');
        due("the last byte", t.outputByte(length - 1), '8');
        thrown(INDEX, "the byte behind it", () -> t.outputByte(length));
    }

    private static void promise3IsEmptied() {
        sentence("Promise 3", "The input buffer is emptied unless an IllegalArgumentException is thrown.");
        MuleTrain good = new MuleTrain();
        feedText(good, "train 0 0 0");
        due("load of a part", good.load(11), 0);
        thrown(ARGUMENT, "load(1) behind a load", () -> good.load(1));
        due("feed behind a load", good.feed(1, 2, 3, 4, 5), 20);
        MuleTrain bad = new MuleTrain();
        feedText(bad, "train 0 0 0");
        thrown(STATE, "load of an error", () -> bad.load(10));
        thrown(ARGUMENT, "load(1) behind an error", () -> bad.load(1));
        due("feed behind an error", bad.feed(1, 2, 3, 4, 5), 20);
        MuleTrain kept = new MuleTrain();
        feedText(kept, "train 0 0 0");
        thrown(ARGUMENT, "load(21)", () -> kept.load(21));
        thrown(ARGUMENT, "load(-1)", () -> kept.load(-1));
        due("feed behind wrong lengths", kept.feed(BLANKS, BLANKS, BLANKS, BLANKS, BLANKS), 40);
        due("load behind wrong lengths", kept.load(40), 0);
    }

    private static void promise3Lengths() {
        sentence("Promise 3", "number of bytes, 0 to the length of the buffer");
        MuleTrain empty = new MuleTrain();
        thrown(ARGUMENT, "load(1) of an empty buffer", () -> empty.load(1));
        thrown(STATE, "load(0) of an empty buffer", () -> empty.load(0));
        due("errorPosition() of no bytes", empty.errorPosition(), 0);
        MuleTrain zero = new MuleTrain();
        feedText(zero, "train 0 0 0");
        thrown(STATE, "load(0) of a buffer that is not empty", () -> zero.load(0));
        due("its errorPosition()", zero.errorPosition(), 0);
        MuleTrain all = new MuleTrain();
        feedText(all, "train 0 0 0");
        thrown(ARGUMENT, "load(21) of 20", () -> all.load(21));
        due("load(20) of 20", all.load(20), 0);
        MuleTrain most = new MuleTrain();
        feedText(most, "train 0 0 0");
        feedBlanks(most, 34);
        thrown(ARGUMENT, "load(701) of 700", () -> most.load(701));
        due("load(700) of 700", most.load(700), 0);
    }

    private static void promise3QuantityOfSacks() {
        sentence("Promise 3", "Returns the quantity of sacks.");
        for (int sacks = 0; sacks <= 16; sacks++) {
            due("load", Check.load(new MuleTrain(), HEAD + ";sack iron 1 1".repeat(sacks)), sacks);
        }
        // Also those that are on mules, delivered or lost.
        due("load with a trip", Check.load(new MuleTrain(), "train 99 0 0;mule a 10;sack iron 2 1;sack iron 1 1;sack iron 1 1;pack 0 a left;ford 9;trip;pack 1 a left"), 3);
    }

    private static void promise3LengthOutOfRange() {
        sentence("Promise 3", "Throws `IllegalArgumentException` if length is out of range; errorCode() and errorPosition() do not change then");
        MuleTrain t = new MuleTrain();
        thrown(STATE, "load of a RANGE error", () -> Check.load(t, "train 0 0 99"));
        for (int length : new int[] {-1, 1, 21, LEAST, MOST}) {
            refused(ARGUMENT, "load(" + length + ") of 0", loadedOnce(), length);
            thrown(ARGUMENT, "load(" + length + ") of 0", () -> t.load(length));
            due("errorCode() behind load(" + length + ")", t.errorCode(), 2);
            due("errorPosition() behind load(" + length + ")", t.errorPosition(), 10);
        }
        feedBlanks(t, 1);
        thrown(ARGUMENT, "load(21) of 20", () -> t.load(21));
        due("errorCode() behind load(21) of 20", t.errorCode(), 2);
    }

    private static MuleTrain loadedOnce() {
        MuleTrain train = loaded("train 9 9 9;mule a 10;sack iron 1 1");
        train.save(0);
        train.pack(0, 0, 0);
        return train;
    }

    private static void refused(Class<?> want, String call, MuleTrain train, int length) {
        refused(want, call, train, () -> train.load(length));
        due("undo() behind it", train.undo(), 0);
        due("restore(0) behind it", train.restore(0), 0);
    }

    private static void promise3TextWithAnError() {
        sentence("Promise 3", "Throws `IllegalStateException` if the text has an error; then only the input buffer, errorCode() and errorPosition() change");
        String good = "train 50 40 30;mule jen 10;sack iron 1 1;road 9;pack 0 jen left;rest 9;";
        String[] errors = {"a", "road 100", "pack 0 b left", "mule jen 10", "pack 0 jen left", "rest 1;"};
        for (String error : errors) {
            MuleTrain t = new MuleTrain();
            t.save(1);
            t.trip();
            int length = t.writeWay();
            refused(STATE, "load of " + error, t, () -> Check.load(t, good + error));
            due("the last byte of the output", t.outputByte(length - 1), '8');
            thrown(ARGUMENT, "load(1), as the buffer is empty", () -> t.load(1));
            due("undo()", t.undo(), 0);
            due("restore(1)", t.restore(1), 0);
            thrown(STATE, "restore(0)", () -> t.restore(0));
        }
    }

    private static void promise4Codes() {
        sentence("Promise 4", "Returns the code of the error found by the latest call of load() that parsed a text");
        String sixMules = ";mule c 10;mule d 10;mule e 10;mule f 10;";
        String start = HEAD + ";mule a 10;mule b 10;sack iron 11 1;";
        error(1, start + "^a");
        error(2, start + "mule c ^9");
        error(3, start + "pack 0 ^c left");
        error(4, start + "mule ^b 10");
        error(5, start.replace(";sack", sixMules + "sack") + "^mule g 10");
        error(6, start + "pack 0 ^a left");
    }

    private static void promise4LatestCallThatParsed() {
        sentence("Promise 4", "the latest call of load() that parsed a text");
        MuleTrain t = new MuleTrain();
        thrown(STATE, "load of a RANGE error", () -> Check.load(t, "train 100 0 0"));
        due("errorCode()", t.errorCode(), 2);
        thrown(ARGUMENT, "load(1), which parses nothing", () -> t.load(1));
        due("errorCode() behind it", t.errorCode(), 2);
        thrown(STATE, "load of a SYNTAX error", () -> Check.load(t, "train"));
        due("errorCode() of the latest", t.errorCode(), 1);
        t.trip();
        t.undo();
        due("errorCode() behind undo()", t.errorCode(), 1);
        Check.load(t, HEAD);
        due("errorCode() behind a good text", t.errorCode(), 0);
        thrown(ARGUMENT, "load(-1) behind a good text", () -> t.load(-1));
        due("errorCode() behind load(-1)", t.errorCode(), 0);
    }

    private static void promise4NoError() {
        sentence("Promise 4", "0 if it found none or there was no such call");
        MuleTrain t = new MuleTrain();
        due("errorCode() at first", t.errorCode(), 0);
        thrown(ARGUMENT, "load(1)", () -> t.load(1));
        due("errorCode() behind a call that parsed nothing", t.errorCode(), 0);
        Check.load(t, HEAD);
        due("errorCode() of a good text", t.errorCode(), 0);
    }

    private static void promise5Positions() {
        sentence("Promise 5", "Returns the position of that error");
        MuleTrain t = new MuleTrain();
        thrown(STATE, "load(0)", () -> t.load(0));
        due("the least position", t.errorPosition(), 0);
        feedText(t, "train 0 0 0");
        feedBlanks(t, 33);
        t.feed(BLANKS, BLANKS, BLANKS, BLANKS, 0x20202041);
        thrown(STATE, "load of an error at the last byte", () -> t.load(700));
        due("its position", t.errorPosition(), 699);
        feedBlanks(t, 35);
        thrown(STATE, "load of blanks", () -> t.load(700));
        due("the greatest position", t.errorPosition(), 700);
        feedBlanks(t, 35);
        thrown(STATE, "load of fewer blanks", () -> t.load(699));
        due("the position 699", t.errorPosition(), 699);
    }

    private static void promise5NoPosition() {
        sentence("Promise 5", "-1 if there is none");
        MuleTrain t = new MuleTrain();
        due("errorPosition() at first", t.errorPosition(), -1);
        thrown(ARGUMENT, "load(1)", () -> t.load(1));
        due("errorPosition() behind load(1)", t.errorPosition(), -1);
        thrown(STATE, "load(0)", () -> t.load(0));
        Check.load(t, HEAD);
        due("errorPosition() behind a good text", t.errorPosition(), -1);
    }
}
