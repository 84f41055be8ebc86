/** The boundaries of the promises 39 to 41: output. */
final class BoundaryOutput extends Boundary {
    static void run() {
        promise39Sides();
        promise39Numbers();
        promise39Longest();
        promise39Replacing();
        promise39NoSuch();
        promise40Stages();
        promise40Longest();
        promise40Nothing();
        promise41FirstAndLast();
        promise41Outside();
        promise41Nothing();
    }

    private static void written(String call, MuleTrain train, int length, String due) {
        Check.output(call, train, length, due);
    }

    private static void promise39Sides() {
        sentence("Promise 39", "the numbers of the sacks on the left side by rising numbers, with a comma (byte 44) between two, a bar (byte 124), those on the right side likewise");
        MuleTrain t = loaded("train 99 0 0;mule a 100;sack iron 1 1;sack iron 2 1;sack iron 3 1;sack iron 4 1");
        written("writeMule(0) without sacks", t, t.writeMule(0), "a:|=0");
        t.pack(3, 0, 0);
        written("writeMule(0) with one on the left", t, t.writeMule(0), "a:3|=4");
        t.pack(1, 0, 0);
        written("writeMule(0) with two on the left", t, t.writeMule(0), "a:1,3|=6");
        t.pack(2, 0, 1);
        written("writeMule(0) with one on the right", t, t.writeMule(0), "a:1,3|2=9");
        t.pack(0, 0, 1);
        written("writeMule(0) with two on the right", t, t.writeMule(0), "a:1,3|0,2=10");
        t.unpack(1);
        t.unpack(3);
        written("writeMule(0) with none on the left", t, t.writeMule(0), "a:|0,2=4");
        t.trip();
        written("writeMule(0) behind a trip", t, t.writeMule(0), "a:|=0");
    }

    private static void promise39Numbers() {
        sentence("Promise 39", "an equals sign (byte 61) and LOAD");
        MuleTrain t = loaded("train 99 0 0;mule a 300" + ";sack iron 9 1".repeat(10) + ";sack iron 1 1;sack iron 98 1;sack iron 1 1;sack iron 1 1");
        t.pack(9, 0, 0);
        written("LOAD of one digit", t, t.writeMule(0), "a:9|=9");
        t.pack(10, 0, 0);
        written("LOAD of two digits", t, t.writeMule(0), "a:9,10|=10");
        t.unpack(9);
        t.pack(11, 0, 1);
        written("LOAD of 99", t, t.writeMule(0), "a:10|11=99");
        t.pack(12, 0, 1);
        written("LOAD of three digits", t, t.writeMule(0), "a:10|11,12=100");
    }

    private static void promise39Longest() {
        sentence("Promise 39", "Returns the length of the output.");
        MuleTrain shortest = loaded(HEAD + ";mule z 10");
        due("the shortest", shortest.writeMule(0), 5);
        MuleTrain t = loaded("train 99 0 0;mule abcxyz 300" + ";sack iron 18 1".repeat(15) + ";sack iron 30 1");
        for (int sack = 15; sack >= 0; sack--) {
            t.pack(sack, 0, 0);
        }
        due("length of the longest", t.writeMule(0), 49);
        written("the longest, with all on the left", t, 49, "abcxyz:0,1,2,3,4,5,6,7,8,9,10,11,12,13,14,15|=300");
        for (int sack = 0; sack < 16; sack++) {
            t.shift(sack);
        }
        written("the longest, with all on the right", t, t.writeMule(0), "abcxyz:|0,1,2,3,4,5,6,7,8,9,10,11,12,13,14,15=300");
        t.shift(0);
        written("with one on the left", t, t.writeMule(0), "abcxyz:0|1,2,3,4,5,6,7,8,9,10,11,12,13,14,15=300");
    }

    private static void promise39Replacing() {
        sentence("Promise 39", "Writes a mule to the output buffer, replacing its content");
        MuleTrain t = new MuleTrain();
        written("writeWay()", t, t.writeWay(), "road40 ford5 camp8");
        written("writeMule(0)", t, t.writeMule(0), "jen:0|3=40");
        written("writeMule(1)", t, t.writeMule(1), "moll:1|=20");
        written("writeMule(1) again", t, t.writeMule(1), "moll:1|=20");
    }

    private static void promise39NoSuch() {
        sentence("Promise 39", "Throws `NoSuchElementException` if there is no such mule");
        MuleTrain t = new MuleTrain();
        int length = t.writeMule(1);
        range(NO_SUCH, "writeMule", 0, 1, mule -> t.writeMule(mule));
        due("the output behind the last mule", t.outputByte(length - 1), '0');
        for (int mule : new int[] {-1, 2, LEAST, MOST}) {
            thrown(NO_SUCH, "writeMule(" + mule + ")", () -> t.writeMule(mule));
            due("the first byte behind it", t.outputByte(0), 'm');
            due("the last byte behind it", t.outputByte(length - 1), '0');
        }
        MuleTrain none = loaded(HEAD);
        thrown(NO_SUCH, "writeMule(0) of none", () -> none.writeMule(0));
        MuleTrain six = loaded(HEAD + ";mule a 10;mule b 10;mule c 10;mule d 10;mule e 10;mule f 10");
        range(NO_SUCH, "writeMule of six", 0, 5, mule -> six.writeMule(mule));
    }

    private static void promise40Stages() {
        sentence("Promise 40", "for each stage the word road, ford or camp and, directly behind it, its miles, depth or hours; with a space between two.");
        MuleTrain t = loaded(HEAD + ";road 1");
        written("the way of one road", t, t.writeWay(), "road1");
        t.addStage(0, 99);
        written("the way of two roads", t, t.writeWay(), "road1 road99");
        t.dropStage(0);
        t.addStage(1, 1);
        t.addStage(1, 9);
        t.addStage(2, 1);
        t.addStage(2, 9);
        t.addStage(2, 10);
        t.addStage(2, 24);
        t.addStage(0, 10);
        written("the way of eight", t, t.writeWay(), "road99 ford1 ford9 camp1 camp9 camp10 camp24 road10");
    }

    private static void promise40Longest() {
        sentence("Promise 40", "@return the length of the output");
        MuleTrain t = loaded(HEAD + ";road 99;camp 24".repeat(4));
        due("length of the longest", t.writeWay(), 55);
        written("the longest", t, 55, "road99 camp24 road99 camp24 road99 camp24 road99 camp24");
        MuleTrain least = loaded(HEAD + ";ford 1");
        due("length of the shortest", least.writeWay(), 5);
    }

    private static void promise40Nothing() {
        sentence("Promise 40", "Writes the way to the output buffer, replacing its content");
        MuleTrain t = new MuleTrain();
        t.writeMule(0);
        for (int times = 0; times < 3; times++) {
            t.dropStage(0);
        }
        written("the way without stages", t, t.writeWay(), "");
        thrown(INDEX, "outputByte(0) of it", () -> t.outputByte(0));
        t.addStage(1, 2);
        written("the way of one stage", t, t.writeWay(), "ford2");
    }

    private static void promise41FirstAndLast() {
        sentence("Promise 41", "Returns the byte at that index.");
        MuleTrain t = new MuleTrain();
        String way = "road40 ford5 camp8";
        due("length", t.writeWay(), way.length());
        for (int index = 0; index < way.length(); index++) {
            due("outputByte(" + index + ")", t.outputByte(index), way.charAt(index));
        }
        t.writeMule(0);
        int[] bytes = {'j', 'e', 'n', 58, '0', 124, '3', 61, '4', '0'};
        for (int index = 0; index < bytes.length; index++) {
            due("outputByte(" + index + ") of the mule", t.outputByte(index), bytes[index]);
        }
    }

    private static void promise41Outside() {
        sentence("Promise 41", "Throws `IndexOutOfBoundsException` if index is negative or not less than the length of the output");
        MuleTrain t = new MuleTrain();
        int way = t.writeWay();
        range(INDEX, "outputByte of the way", 0, way - 1, index -> t.outputByte(index));
        int mule = t.writeMule(0);
        range(INDEX, "outputByte of a shorter text", 0, mule - 1, index -> t.outputByte(index));
        thrown(INDEX, "outputByte of the longer text before", () -> t.outputByte(way - 1));
        MuleTrain longest = loaded(HEAD + ";road 99;camp 24".repeat(4));
        longest.writeWay();
        range(INDEX, "outputByte of the longest text", 0, 54, index -> longest.outputByte(index));
    }

    private static void promise41Nothing() {
        sentence("Promise 41", "not less than the length of the output");
        MuleTrain t = new MuleTrain();
        for (int index : new int[] {0, 1, -1, LEAST, MOST}) {
            thrown(INDEX, "outputByte(" + index + ") where nothing is written yet", () -> t.outputByte(index));
        }
        thrown(NO_SUCH, "writeMule(2)", () -> t.writeMule(2));
        thrown(INDEX, "outputByte(0) behind it", () -> t.outputByte(0));
        MuleTrain empty = loaded(HEAD);
        due("writeWay() of nothing", empty.writeWay(), 0);
        thrown(INDEX, "outputByte(0) of an empty output", () -> empty.outputByte(0));
        thrown(INDEX, "outputByte(-1) of an empty output", () -> empty.outputByte(-1));
    }
}
