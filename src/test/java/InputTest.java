/** Promises 1 to 5: a new train, feed, load, errorCode, errorPosition. */
public final class InputTest {
    private static final String FIRST = "train 20 10 3; mule jen 100; mule moll 60; sack grain 30 40; sack cloth 20 60; sack iron 50 30; sack glass 10 90; sack grain 25 20; road 40; ford 5; camp 8; pack 0 jen left; pack 3 jen right; pack 1 moll left";
    private static final String HEAD = "train 0 0 0";

    public static void main(String[] args) {
        promise1NewTrain();
        promise2Feed();
        promise3Load();
        promise3LinesAreDone();
        promise3SecondText();
        promise3Lengths();
        promise3FailedLoad();
        promise4Syntax();
        promise4EndOfText();
        promise4Blanks();
        promise4Range();
        promise4Unknown();
        promise4Taken();
        promise4Limit();
        promise4Refused();
        promise5LeastPosition();
        promise5OtherCalls();
        Check.end();
    }

    private static void promise1NewTrain() {
        MuleTrain t = new MuleTrain();
        int[] values = {2, 5, 2, 3, 0, 0, 3, 0, 0, 40, 0};
        for (int what = 0; what <= 10; what++) {
            Check.due("value(" + what + ") of a new train", t.value(what), values[what]);
        }
        Check.due("errorCode() of a new train", t.errorCode(), 0);
        Check.due("errorPosition() of a new train", t.errorPosition(), -1);
        Check.thrown("outputByte(0) of a new train", IndexOutOfBoundsException.class, () -> t.outputByte(0));
        Check.thrown("undo() of a new train", IllegalStateException.class, () -> t.undo());
        Check.thrown("restore(0) of a new train", IllegalStateException.class, () -> t.restore(0));
        Check.thrown("restore(1) of a new train", IllegalStateException.class, () -> t.restore(1));
        Check.thrown("load(1) of a new train", IllegalArgumentException.class, () -> t.load(1));
        Check.due("feed of a new train", t.feed(0, 0, 0, 0, 0), 20);
        same("a new train and its text", new MuleTrain(), Check.loaded(FIRST));
        MuleTrain other = new MuleTrain();
        other.trip();
        Check.due("DAY of another train", new MuleTrain().value(7), 0);
    }

    private static void same(String what, MuleTrain one, MuleTrain other) {
        if (!Check.all(one).equals(Check.all(other))) {
            Check.fault(what + " are not alike: " + Check.all(one) + " / " + Check.all(other));
        }
    }

    private static void promise2Feed() {
        MuleTrain t = new MuleTrain();
        for (int times = 1; times <= 35; times++) {
            Check.due("feed " + times, t.feed(0x20202020, 0x20202020, 0x20202020, 0x20202020, 0x20202020), 20 * times);
        }
        Check.thrown("the 36th feed", IllegalStateException.class, () -> t.feed(1, 2, 3, 4, 5));
        Check.thrown("load(701)", IllegalArgumentException.class, () -> t.load(701));
        Check.thrown("load(700) of blanks", IllegalStateException.class, () -> t.load(700));
        Check.due("position behind 700 blanks", t.errorPosition(), 700);
        Check.due("feed behind a load", t.feed(0x20202020, 0x20202020, 0x20202020, 0x20202020, 0x202020ff), 20);
        Check.thrown("load of a byte above 127", IllegalStateException.class, () -> t.load(20));
        Check.due("position of the last byte", t.errorPosition(), 19);
        // "train 1 2 3" is told from the first byte of the first parameter to the third of the third.
        Check.due("feed of train 1 2 3", t.feed(0x74726169, 0x6e203120, 0x32203341, 0x41414141, 0x41414141), 20);
        Check.due("load(11)", t.load(11), 0);
        for (int which = 0; which <= 2; which++) {
            Check.due("setting(" + which + ")", t.setting(which), which + 1);
        }
        MuleTrain low = new MuleTrain();
        low.feed(0x20202020, 0x20202020, 0x20202020, 0x80202020, 0x20202020);
        Check.thrown("load of the byte 128", IllegalStateException.class, () -> low.load(20));
        Check.due("its position", low.errorPosition(), 12);
    }

    private static void promise3Load() {
        MuleTrain t = new MuleTrain();
        t.save(0);
        t.save(1);
        t.pack(4, 0, 1);
        t.trip();
        t.writeWay();
        Check.due("load", Check.load(t, "train 99 50 50;mule a 300;mule abcdef 10\n;\nsack glass 99 999;sack iron 1 0;road 99;ford 9;camp 24;road 1;ford 1;camp 1;"
            + "sack cloth 2 3;pack 0 a right;pack 2 abcdef left"), 3);
        int[] values = {2, 3, 1, 2, 0, 0, 6, 0, 0, 100, 0};
        for (int what = 0; what <= 10; what++) {
            Check.due("value(" + what + ") behind a load", t.value(what), values[what]);
        }
        int[] settings = {99, 50, 50};
        for (int which = 0; which <= 2; which++) {
            Check.due("setting(" + which + ") behind a load", t.setting(which), settings[which]);
        }
        for (int what = 0; what <= 6; what++) {
            Check.due("count(" + what + ") behind a load", t.count(what), 0);
        }
        Check.due("LOAD of a", t.mule(0, 3), 99);
        Check.due("right side of a", t.mule(0, 5), 99);
        Check.due("left side of abcdef", t.mule(1, 4), 2);
        Check.due("letters of abcdef", t.mule(1, 9), 6);
        Check.due("f of abcdef", t.nameByte(1, 5), 'f');
        Check.due("WORTH of the glass", t.sack(0, 2), 999);
        Check.due("kind of the iron", t.sack(1, 0), 2);
        Check.thrown("undo() behind a load", IllegalStateException.class, () -> t.undo());
        Check.thrown("restore(0) behind a load", IllegalStateException.class, () -> t.restore(0));
        Check.thrown("restore(1) behind a load", IllegalStateException.class, () -> t.restore(1));
        Check.due("save(0) behind a load", t.save(0), 1);
        Check.output("the output behind a load", t, 18, "road40 ford5 camp8");
        Check.due("load of fewer", Check.load(t, "train 1 2 3;sack grain 1 1"), 1);
        Check.due("mules behind it", t.value(0), 0);
        Check.due("stages behind it", t.value(6), 0);
        Check.thrown("mule(0, 0) behind it", java.util.NoSuchElementException.class, () -> t.mule(0, 0));
    }

    private static void promise3LinesAreDone() {
        MuleTrain t = Check.loaded("train 99 4 7;mule mule 100;sack grain 10 101;ford 5;road 10;pack 0 mule left;trip;rest 2;sack iron 3 4;road 5;pack 1 mule left;trip");
        Check.due("trips of the text", t.count(0), 2);
        Check.due("DAY behind the text", t.value(7), 4);
        // The grain becomes 50 in the ford, the iron stays 4, and the mule is paid twice.
        Check.due("MONEY behind the text", t.value(8), 50 + 4 - 14);
        Check.due("count(1) behind the text", t.count(1), 54);
        Check.due("count(3) behind the text", t.count(3), 51);
        Check.due("count(5) behind the text", t.count(5), 14);
        Check.due("count(6) behind the text", t.count(6), 2);
        Check.due("DAY of the grain", t.sack(0, 6), 0);
        Check.due("DAY of the iron", t.sack(1, 6), 3);
        // The first road makes it tired by 10 * (1 + 1) / 10 = 2, which the rest takes; the second trip by 10 * 1 / 10 and by 5 * 1 / 10.
        Check.due("TIRED behind the text", t.mule(0, 1), 1);
        Check.due("changes behind the text", t.value(10), 0);
    }

    private static void promise3SecondText() {
        MuleTrain t = Check.loaded("train 99 4 7;mule mule 10;mule b 10;sack grain 9 101;sack glass 1 9;ford 5;road 99;pack 0 b left;pack 1 b right;trip;rest 2");
        Check.thrown("load with an error behind a trip", IllegalStateException.class,
            () -> Check.load(t, "train 99 0 9;mule a 99;sack iron 9 9;sack iron 9 9;pack 1 a left;ford 9;trip;rest"));
        Check.due("sacks of a second text", Check.load(t, "train 1 2 3;mule c 10;mule d 10;sack iron 2 5;sack iron 2 5;sack iron 2 5;pack 1 c left"), 3);
        int[] values = {2, 3, 2, 1, 0, 0, 0, 0, 0, 0, 0};
        for (int what = 0; what <= 10; what++) {
            Check.due("value(" + what + ") of a second text", t.value(what), values[what]);
        }
        for (int what = 0; what <= 6; what++) {
            Check.due("count(" + what + ") of a second text", t.count(what), 0);
        }
        Check.due("TIRED of a second text", t.mule(0, 1) + t.mule(1, 1), 0);
        Check.due("DAY of a sack of a second text", t.sack(0, 6), -1);
        Check.due("gap() of a second text", t.gap(), 0);
    }

    private static void promise3Lengths() {
        MuleTrain t = new MuleTrain();
        Check.feedBytes(t, Check.bytesOf("train 7 8 9; mule x 10"));
        Check.thrown("load(-1)", IllegalArgumentException.class, () -> t.load(-1));
        Check.thrown("load(41)", IllegalArgumentException.class, () -> t.load(41));
        Check.thrown("load(Integer.MIN_VALUE)", IllegalArgumentException.class, () -> t.load(Integer.MIN_VALUE));
        Check.thrown("load(Integer.MAX_VALUE)", IllegalArgumentException.class, () -> t.load(Integer.MAX_VALUE));
        Check.due("errorCode() behind a wrong length", t.errorCode(), 0);
        Check.due("load(11), as the buffer is kept behind wrong lengths", t.load(11), 0);
        Check.due("mules behind load(11)", t.value(0), 0);
        Check.due("TILT behind load(11)", t.setting(0), 7);
        Check.thrown("load(1), as the buffer is empty", IllegalArgumentException.class, () -> t.load(1));
        Check.thrown("load(0)", IllegalStateException.class, () -> t.load(0));
        Check.due("errorCode() behind load(0)", t.errorCode(), 1);
        Check.due("errorPosition() behind load(0)", t.errorPosition(), 0);
        Check.thrown("load(1) behind an error", IllegalArgumentException.class, () -> t.load(1));
        Check.due("errorCode() is kept", t.errorCode(), 1);
        Check.due("errorPosition() is kept", t.errorPosition(), 0);
        Check.load(t, HEAD);
        Check.due("errorCode() behind a good text", t.errorCode(), 0);
        Check.due("errorPosition() behind a good text", t.errorPosition(), -1);
    }

    private static void promise3FailedLoad() {
        MuleTrain t = new MuleTrain();
        t.save(1);
        t.unpack(0);
        t.writeMule(0);
        String before = Check.all(t);
        Check.thrown("load with an error in its last token", IllegalStateException.class,
            () -> Check.load(t, "train 1 1 1;mule a 200;sack iron 1 1;pack 0 a left;trip;rest 9;ford 10"));
        Check.due("errorCode()", t.errorCode(), 2);
        Check.due("errorPosition()", t.errorPosition(), 68);
        if (!before.equals(Check.all(t))) {
            Check.fault("a load with an error changed the train");
        }
        Check.output("the output behind an error", t, 9, "jen:|3=10");
        Check.due("changes behind an error", t.value(10), 1);
        Check.thrown("load(1) behind an error, as the buffer is empty", IllegalArgumentException.class, () -> t.load(1));
        Check.due("restore(1) behind an error", t.restore(1), 0);
        Check.due("undo() behind an error", t.undo(), 1);
        Check.due("undo() behind an error, again", t.undo(), 0);
        Check.due("LOAD of jen behind it", t.mule(0, 3), 40);
    }

    private static void promise4Syntax() {
        Check.error(1, "^tram 0 0 0");
        Check.error(1, "^trains 0 0 0");
        Check.error(1, "^trai");
        Check.error(1, "^5");
        Check.error(1, "^;");
        Check.error(1, "^Train 0 0 0");
        Check.error(1, "train ^a 0 0");
        Check.error(1, "train 0 0^;");
        Check.error(1, "train 0 0 0 ^0");
        Check.error(1, "train 0 0 0 ^mule a 10");
        Check.error(1, HEAD + ";^;mule a 10");
        Check.error(1, HEAD + ";^train 0 0 0");
        Check.error(1, HEAD + ";^5");
        Check.error(1, HEAD + ";^mules a 10");
        Check.error(1, HEAD + ";^mul a 10");
        Check.error(1, HEAD + ";^trips");
        Check.error(1, HEAD + ";mule ^10 10");
        Check.error(1, HEAD + ";mule ^; 10");
        Check.error(1, HEAD + ";mule ^abcdefg 10");
        Check.error(1, HEAD + ";mule a ^b");
        Check.error(1, HEAD + ";mule a 10 ^10");
        Check.error(1, HEAD + ";sack ^sand 1 1");
        Check.error(1, HEAD + ";sack ^grains 1 1");
        Check.error(1, HEAD + ";sack ^1 1 1");
        Check.error(1, HEAD + ";sack iron ^iron 1");
        Check.error(1, HEAD + ";sack iron 1 ^iron");
        Check.error(1, HEAD + ";road ^a");
        Check.error(1, HEAD + ";rest ^;");
        Check.error(1, HEAD + ";mule a 50;sack iron 1 1;pack ^a a left");
        Check.error(1, HEAD + ";mule a 50;sack iron 1 1;pack 0 ^0 left");
        Check.error(1, HEAD + ";mule a 50;sack iron 1 1;pack 0 ^abcdefg left");
        Check.error(1, HEAD + ";mule a 50;sack iron 1 1;pack 0 a ^up");
        Check.error(1, HEAD + ";mule a 50;sack iron 1 1;pack 0 a ^0");
        Check.error(1, "train 9 0 0;mule a 50;sack iron 1 1;pack 0 a left;trip ^5");
        Check.error(1, "train^0 0 0");
        Check.error(1, "train 0 0 0^a");
        Check.error(1, HEAD + ";mule^10 10");
        Check.error(1, HEAD + ";mule a^10");
        Check.error(1, HEAD + ";road 5;^;");
        Check.error(1, HEAD + ";road 5^mule a 10");
        Check.error(1, "train ^1000 0 0");
        Check.error(1, "train ^0000 0 0");
        Check.error(1, "train ^99999999999999999999 0 0");
        Check.error(1, HEAD + ";sack iron 1 ^0001");
        for (char odd : new char[] {0, 9, 11, 13, 31, 33, 44, 47, 58, 60, 64, 65, 90, 91, 96, 123, 127, 128, 160, 186, 225, 255}) {
            Check.error(1, HEAD + "^" + odd);
            Check.error(1, "train 0 0 ^" + odd + "0");
        }
        Check.error(1, HEAD + ";mule a^B 10");
    }

    private static void promise4EndOfText() {
        Check.error(1, "^");
        Check.error(1, "train^");
        Check.error(1, "train 0 0^");
        Check.error(1, HEAD + ";^");
        Check.error(1, HEAD + "; \n ^");
        Check.error(1, "  ^");
        Check.error(1, HEAD + ";mule^");
        Check.error(1, HEAD + ";mule a^");
        Check.error(1, HEAD + ";sack iron 9^");
        Check.error(1, HEAD + ";road^");
        Check.error(1, HEAD + ";rest ^");
        Check.error(1, HEAD + ";mule a 50;sack iron 1 1;pack^");
        Check.error(1, HEAD + ";mule a 50;sack iron 1 1;pack 0^");
        Check.error(1, HEAD + ";mule a 50;sack iron 1 1;pack 0 a ^");
    }

    private static void promise4Blanks() {
        String blanks = " \n \ntrain\n0 0  0\n;mule a 10 ;\nsack iron 5 007;pack\n\n0 a left;rest 01\n \n";
        MuleTrain t = Check.loaded(blanks);
        Check.due("errorCode() of blanks", t.errorCode(), 0);
        Check.due("sacks of blanks", t.value(1), 1);
        Check.due("WORTH of 007", t.sack(0, 2), 7);
        Check.due("DAY of rest 01", t.value(7), 1);
        Check.due("mules without blanks behind semicolons", Check.loaded("train 0 0 0;mule a 10;mule b 10;mule c 10").value(0), 3);
        StringBuilder whole = new StringBuilder(HEAD);
        while (whole.length() < 691) {
            whole.append(";rest 99");
        }
        Check.due("DAY behind a long text", Check.loaded(whole.toString()).value(7), 99 * ((whole.length() - HEAD.length()) / 8));
        MuleTrain names = Check.loaded(HEAD + ";mule mule 50;mule left 50;mule train 50;mule a 50;mule aa 50;mule aaaaaa 50;sack iron 1 1;pack 0 left left");
        Check.due("mules with names like words", names.value(0), 6);
        Check.due("the mule left", names.sack(0, 4), 1);
    }

    private static void promise4Range() {
        Check.due("the greatest settings", Check.loaded("train 99 50 50").setting(2), 50);
        Check.error(2, "train ^100 0 0");
        Check.error(2, "train 0 ^51 0");
        Check.error(2, "train 0 0 ^51");
        Check.error(2, HEAD + ";mule a ^9");
        Check.error(2, HEAD + ";mule a ^301");
        Check.error(2, HEAD + ";sack iron ^0 1");
        Check.error(2, HEAD + ";sack iron ^100 1");
        Check.error(2, HEAD + ";road ^0");
        Check.error(2, HEAD + ";road ^100");
        Check.error(2, HEAD + ";ford ^0");
        Check.error(2, HEAD + ";ford ^10");
        Check.error(2, HEAD + ";camp ^0");
        Check.error(2, HEAD + ";camp ^25");
        Check.error(2, HEAD + ";rest ^0");
        Check.error(2, HEAD + ";rest ^100");
        Check.error(2, HEAD + ";mule a 50;pack ^0 a left");
        Check.error(2, HEAD + ";mule a 50;sack iron 1 1;pack ^1 a left;sack iron 1 1");
        Check.error(2, HEAD + ";mule a 50;sack iron 1 1;pack ^999 b up");
    }

    private static void promise4Unknown() {
        Check.error(3, HEAD + ";sack iron 1 1;pack 0 ^a left");
        Check.error(3, HEAD + ";sack iron 1 1;mule ab 50;pack 0 ^a left");
        Check.error(3, HEAD + ";sack iron 1 1;mule ab 50;pack 0 ^abc left");
        Check.error(3, HEAD + ";sack iron 1 1;mule ab 50;pack 0 ^ac left");
        Check.error(3, HEAD + ";sack iron 1 1;mule ab 50;pack 0 ^left;mule left 50");
    }

    private static void promise4Taken() {
        Check.error(4, HEAD + ";mule a 50;mule ^a 50");
        Check.error(4, HEAD + ";mule a 50;mule abcdef 50;mule b 50;mule ^abcdef 9");
        Check.error(4, HEAD + ";mule a 50;mule ^a");
        Check.error(4, HEAD + ";mule a 50;mule ^a9");
    }

    private static void promise4Limit() {
        String mules = HEAD + ";mule a 10;mule b 10;mule c 10;mule d 10;mule e 10;mule f 10";
        Check.due("six mules", Check.loaded(mules).value(0), 6);
        Check.error(5, mules + ";^mule g 10");
        Check.error(5, mules + ";^mule");
        String sacks = HEAD;
        for (int sack = 0; sack < 16; sack++) {
            sacks += ";sack iron 1 1";
        }
        Check.due("sixteen sacks", Check.loaded(sacks).value(1), 16);
        Check.error(5, sacks + "; ^sack iron 1 1");
        String way = HEAD + ";road 1;ford 1;camp 1;road 1;ford 1;camp 1;road 1;ford 1";
        Check.due("eight stages", Check.loaded(way).value(6), 8);
        Check.error(5, way + ";^road 1");
        Check.error(5, way + ";^ford 10");
        Check.error(5, way + ";^camp");
    }

    private static void promise4Refused() {
        String start = HEAD + ";mule a 50;mule b 10;sack iron 30 5;sack iron 21 5;sack iron 20 5;sack glass 10 1";
        Check.error(6, start + ";pack 0 ^b left");
        Check.error(6, start + ";pack 0 a left;pack 0 ^a right");
        Check.error(6, start + ";pack 0 a left;pack 1 ^a right");
        Check.error(6, start + ";pack 0 ^b up");
        Check.due("a full mule", Check.loaded(start + ";pack 0 a left;pack 2 a right;pack 3 b left").mule(0, 3), 50);
        Check.error(6, start + ";^trip");
        Check.error(6, start + ";pack 3 b left;^trip");
        Check.error(6, start + ";^trip 5");
        Check.error(6, "train 99 0 0;mule a 50;sack iron 1 1;pack 0 a left;trip;^trip");
        Check.error(6, "train 99 0 0;mule a 50;sack iron 1 1;pack 0 a left;trip;pack 0 ^a left");
        // A tired mule bears less: 50 miles make it tired by 50 * (0 + 1) / 10 = 5, so that it bears 47.
        Check.error(6, "train 99 0 0;mule a 50;sack iron 1 1;sack iron 48 1;road 50;pack 0 a left;trip;pack 1 ^a left");
    }

    private static void promise5LeastPosition() {
        Check.error(2, "train ^100 100 1000 A");
        Check.error(1, "train ^1000 100 A");
        Check.error(4, HEAD + ";mule a 50;mule ^a 1;mule A");
        Check.error(3, HEAD + ";sack iron 1 1;pack 0 ^a9 left");
        Check.error(2, HEAD + ";mule a ^5b");
    }

    private static void promise5OtherCalls() {
        MuleTrain t = new MuleTrain();
        Check.thrown("load of an error", IllegalStateException.class, () -> Check.load(t, "train 0 0 99"));
        t.trip();
        t.undo();
        t.save(0);
        t.rest(1);
        t.restore(0);
        Check.due("errorCode() behind other calls", t.errorCode(), 2);
        Check.due("errorPosition() behind other calls", t.errorPosition(), 10);
        Check.thrown("load of another error", IllegalStateException.class, () -> Check.load(t, "train 0 0 0;mule a 10;mule a 10"));
        Check.due("errorCode() of the latest", t.errorCode(), 4);
        Check.due("errorPosition() of the latest", t.errorPosition(), 27);
    }
}
