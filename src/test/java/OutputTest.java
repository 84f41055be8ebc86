import java.util.NoSuchElementException;

/** Promises 39 to 41: writeMule, writeWay, outputByte. */
public final class OutputTest {
    public static void main(String[] args) {
        promise39WriteMule();
        promise39ManySacks();
        promise40WriteWay();
        promise41OutputByte();
        Check.end();
    }

    private static void promise39WriteMule() {
        MuleTrain t = new MuleTrain();
        Check.output("writeMule(0)", t, t.writeMule(0), "jen:0|3=40");
        Check.output("writeMule(1)", t, t.writeMule(1), "moll:1|=20");
        t.pack(4, 0, 1);
        Check.output("writeMule(0) behind pack", t, t.writeMule(0), "jen:0|3,4=65");
        t.shift(3);
        t.unpack(4);
        Check.output("writeMule(0) behind shift", t, t.writeMule(0), "jen:0,3|=40");
        t.unpack(1);
        Check.output("writeMule(1) without sacks", t, t.writeMule(1), "moll:|=0");
        for (int mule : new int[] {-1, 2, Integer.MIN_VALUE, Integer.MAX_VALUE}) {
            Check.thrown("writeMule(" + mule + ")", NoSuchElementException.class, () -> t.writeMule(mule));
        }
        Check.output("the output behind a wrong mule", t, 8, "moll:|=0");
    }

    private static void promise39ManySacks() {
        StringBuilder text = new StringBuilder("train 0 0 0;mule azazaz 300");
        for (int sack = 0; sack < 16; sack++) {
            text.append(";sack iron 10 1");
        }
        MuleTrain t = Check.loaded(text.toString());
        for (int sack = 15; sack >= 0; sack--) {
            t.pack(sack, 0, 1);
        }
        Check.output("writeMule(0) with 16 on the right", t, t.writeMule(0), "azazaz:|0,1,2,3,4,5,6,7,8,9,10,11,12,13,14,15=160");
        for (int sack = 0; sack < 16; sack++) {
            t.shift(sack);
        }
        Check.output("writeMule(0) with 16 on the left", t, t.writeMule(0), "azazaz:0,1,2,3,4,5,6,7,8,9,10,11,12,13,14,15|=160");
    }

    private static void promise40WriteWay() {
        MuleTrain t = new MuleTrain();
        Check.output("writeWay()", t, t.writeWay(), "road40 ford5 camp8");
        t.dropStage(0);
        Check.output("writeWay() behind dropStage", t, t.writeWay(), "ford5 camp8");
        MuleTrain long8 = Check.loaded("train 0 0 0;road 99;road 99;road 10;camp 24;camp 10;camp 24;ford 1;road 99");
        Check.output("writeWay() of eight", long8, long8.writeWay(), "road99 road99 road10 camp24 camp10 camp24 ford1 road99");
        MuleTrain none = Check.loaded("train 0 0 0");
        Check.output("writeWay() of none", none, none.writeWay(), "");
    }

    private static void promise41OutputByte() {
        MuleTrain t = new MuleTrain();
        Check.thrown("outputByte(0) at first", IndexOutOfBoundsException.class, () -> t.outputByte(0));
        t.writeWay();
        int length = t.writeMule(0);
        Check.due("outputByte(0)", t.outputByte(0), 'j');
        Check.due("the last outputByte", t.outputByte(length - 1), '0');
        for (int index : new int[] {-1, length, length + 1, 17, Integer.MIN_VALUE, Integer.MAX_VALUE}) {
            Check.thrown("outputByte(" + index + ")", IndexOutOfBoundsException.class, () -> t.outputByte(index));
        }
        t.trip();
        t.undo();
        t.fill(0);
        Check.output("the output behind other calls", t, 10, "jen:0|3=40");
        Check.load(t, "train 0 0 0");
        Check.output("the output behind a load", t, 10, "jen:0|3=40");
    }
}
