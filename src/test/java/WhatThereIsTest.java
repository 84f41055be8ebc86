import java.util.NoSuchElementException;

/** Promises 6 to 13: value, setting, count, mule, nameByte, sack, stage, gap. */
public final class WhatThereIsTest {
    private static final int LEAST = Integer.MIN_VALUE;
    private static final int MOST = Integer.MAX_VALUE;

    public static void main(String[] args) {
        promise6Value();
        promise7Setting();
        promise8Count();
        promise9Mule();
        promise10NameByte();
        promise11Sack();
        promise12Stage();
        promise13Gap();
        Check.end();
    }

    private static void values(String when, MuleTrain t, int... due) {
        for (int what = 0; what < due.length; what++) {
            Check.due("value(" + what + ") " + when, t.value(what), due[what]);
        }
    }

    private static void counts(String when, MuleTrain t, int... due) {
        for (int what = 0; what < due.length; what++) {
            Check.due("count(" + what + ") " + when, t.count(what), due[what]);
        }
    }

    private static void mules(String when, MuleTrain t, int mule, int... due) {
        for (int what = 0; what < due.length; what++) {
            Check.due("mule(" + mule + ", " + what + ") " + when, t.mule(mule, what), due[what]);
        }
    }

    private static void sacks(String when, MuleTrain t, int sack, int... due) {
        for (int what = 0; what < due.length; what++) {
            Check.due("sack(" + sack + ", " + what + ") " + when, t.sack(sack, what), due[what]);
        }
    }

    private static void promise6Value() {
        MuleTrain t = new MuleTrain();
        values("at first", t, 2, 5, 2, 3, 0, 0, 3, 0, 0, 40, 0);
        t.addStage(0, 9);
        t.addStage(0, 99);
        t.addStage(1, 9);
        t.addSack(2, 60, 1);
        values("behind additions", t, 2, 6, 3, 3, 0, 0, 6, 0, 0, 148, 4);
        t.unpack(0);
        t.unpack(3);
        t.unpack(1);
        t.pack(5, 1, 0);
        t.set(0, 99);
        // 40 * (60 * 10 / 60 + 1) / 10 = 44 make moll bear 33, so that she loses all.
        t.trip();
        values("behind a trip that loses all", t, 2, 6, 5, 0, 0, 1, 6, 1, -3, 148, 10);
        t.dropStage(0);
        values("behind a road less", t, 2, 6, 5, 0, 0, 1, 5, 1, -3, 108, 10);
        MuleTrain u = new MuleTrain();
        u.trip();
        values("behind a trip", u, 2, 5, 2, 0, 3, 0, 3, 1, 149, 40, 1);
        u.undo();
        values("behind an undo", u, 2, 5, 2, 3, 0, 0, 3, 0, 0, 40, 0);
        Check.thrown("value(-1)", IllegalArgumentException.class, () -> u.value(-1));
        Check.thrown("value(11)", IllegalArgumentException.class, () -> u.value(11));
        Check.thrown("value(LEAST)", IllegalArgumentException.class, () -> u.value(LEAST));
        Check.thrown("value(MOST)", IllegalArgumentException.class, () -> u.value(MOST));
    }

    private static void promise7Setting() {
        MuleTrain t = Check.loaded("train 98 49 48");
        Check.due("setting(0)", t.setting(0), 98);
        Check.due("setting(1)", t.setting(1), 49);
        Check.due("setting(2)", t.setting(2), 48);
        t.set(1, 0);
        Check.due("setting(1) behind set", t.setting(1), 0);
        Check.thrown("setting(-1)", IllegalArgumentException.class, () -> t.setting(-1));
        Check.thrown("setting(3)", IllegalArgumentException.class, () -> t.setting(3));
        Check.thrown("setting(LEAST)", IllegalArgumentException.class, () -> t.setting(LEAST));
        Check.thrown("setting(MOST)", IllegalArgumentException.class, () -> t.setting(MOST));
    }

    private static void promise8Count() {
        MuleTrain t = new MuleTrain();
        counts("at first", t, 0, 0, 0, 0, 0, 0, 0);
        t.trip();
        // Grain 40 becomes 20, cloth 60 becomes 45, glass stays 90; two mules are paid 3.
        counts("behind a trip", t, 1, 155, 0, 35, 0, 6, 3);
        t.undo();
        counts("behind an undo", t, 0, 0, 0, 0, 0, 0, 0);
        // At a ford of 9, 100 becomes 10: the glass of 9 stays and breaks, the grain of 9 goes, as does the iron.
        MuleTrain u = Check.loaded("train 99 0 5;mule a 100;mule b 50;sack iron 80 7;sack grain 9 8;sack glass 9 90;sack cloth 1 3;sack glass 1 0;ford 9;pack 0 a left;pack 1 a right;pack 2 a right;pack 3 b left;pack 4 b left");
        u.trip();
        // Cloth 3 becomes 2; glass of 9 (WORTH 90) breaks; three sacks get wet: both glasses and the cloth.
        counts("behind a ford", u, 1, 2, 15, 1, 90, 10, 3);
        u.addSack(0, 1, 1);
        u.pack(5, 1, 0);
        u.trip();
        counts("behind another", u, 2, 2, 15, 2, 90, 15, 4);
        u.save(0);
        u.addSack(0, 1, 1);
        u.pack(6, 1, 0);
        u.trip();
        u.restore(0);
        counts("behind restore", u, 2, 2, 15, 2, 90, 15, 4);
        Check.load(u, "train 0 0 0");
        counts("behind a load", u, 0, 0, 0, 0, 0, 0, 0);
        Check.thrown("count(-1)", IllegalArgumentException.class, () -> u.count(-1));
        Check.thrown("count(7)", IllegalArgumentException.class, () -> u.count(7));
        Check.thrown("count(LEAST)", IllegalArgumentException.class, () -> u.count(LEAST));
        Check.thrown("count(MOST)", IllegalArgumentException.class, () -> u.count(MOST));
    }

    private static void promise9Mule() {
        MuleTrain t = new MuleTrain();
        mules("at first", t, 0, 100, 0, 100, 40, 30, 10, 2, 1, 130, 3);
        mules("at first", t, 1, 60, 0, 60, 20, 20, 0, 1, 1, 60, 4);
        t.pack(4, 0, 1);
        mules("behind pack", t, 0, 100, 0, 100, 65, 30, 35, 3, 1, 150, 3);
        t.unpack(0);
        mules("behind unpack", t, 0, 100, 0, 100, 35, 0, 35, 2, 0, 110, 3);
        t.set(0, 35);
        Check.due("LEVEL with TILT 35", t.mule(0, 7), 1);
        t.set(0, 34);
        Check.due("LEVEL with TILT 34", t.mule(0, 7), 0);
        t.set(0, 19);
        Check.due("LEVEL of moll with TILT 19", t.mule(1, 7), 0);
        t.set(0, 0);
        t.unpack(1);
        Check.due("LEVEL of moll without sacks, TILT 0", t.mule(1, 7), 1);
        // Jen carries 40 and is tired by 20 less 8; STRENGTH 100 with TIRED 12 bears 88, 60 with 8 bears 55.
        MuleTrain u = new MuleTrain();
        u.trip();
        mules("behind a trip", u, 0, 100, 12, 88, 0, 0, 0, 0, 1, 0, 3);
        // Moll: 40 * (20 * 10 / 60 + 1) / 10 = 16, and 8 less.
        mules("behind a trip", u, 1, 60, 8, 55, 0, 0, 0, 0, 1, 0, 4);
        Check.thrown("mule(2, 0)", NoSuchElementException.class, () -> u.mule(2, 0));
        Check.thrown("mule(-1, 0)", NoSuchElementException.class, () -> u.mule(-1, 0));
        Check.thrown("mule(LEAST, 0)", NoSuchElementException.class, () -> u.mule(LEAST, 0));
        Check.thrown("mule(MOST, 0)", NoSuchElementException.class, () -> u.mule(MOST, 0));
        Check.thrown("mule(2, 10)", NoSuchElementException.class, () -> u.mule(2, 10));
        Check.thrown("mule(1, 10)", IllegalArgumentException.class, () -> u.mule(1, 10));
        Check.thrown("mule(0, -1)", IllegalArgumentException.class, () -> u.mule(0, -1));
        Check.thrown("mule(0, LEAST)", IllegalArgumentException.class, () -> u.mule(0, LEAST));
        Check.thrown("mule(0, MOST)", IllegalArgumentException.class, () -> u.mule(0, MOST));
    }

    private static void promise10NameByte() {
        MuleTrain t = Check.loaded("train 0 0 0;mule jen 10;mule azazaz 10;mule q 10");
        int[][] names = {{'j', 'e', 'n', -1}, {'a', 'z', 'a', 'z', 'a', 'z', -1}, {'q', -1, -1}};
        for (int mule = 0; mule < names.length; mule++) {
            for (int index = 0; index < names[mule].length; index++) {
                Check.due("nameByte(" + mule + ", " + index + ")", t.nameByte(mule, index), names[mule][index]);
            }
            Check.due("nameByte(" + mule + ", -1)", t.nameByte(mule, -1), -1);
            Check.due("nameByte(" + mule + ", LEAST)", t.nameByte(mule, LEAST), -1);
            Check.due("nameByte(" + mule + ", MOST)", t.nameByte(mule, MOST), -1);
        }
        Check.thrown("nameByte(3, 0)", NoSuchElementException.class, () -> t.nameByte(3, 0));
        Check.thrown("nameByte(-1, 0)", NoSuchElementException.class, () -> t.nameByte(-1, 0));
        Check.thrown("nameByte(MOST, 9)", NoSuchElementException.class, () -> t.nameByte(MOST, 9));
    }

    private static void promise11Sack() {
        MuleTrain t = new MuleTrain();
        sacks("at first", t, 0, 0, 30, 40, 1, 0, 0, -1, 40);
        sacks("at first", t, 1, 1, 20, 60, 1, 1, 0, -1, 60);
        sacks("at first", t, 2, 2, 50, 30, 0, -1, -1, -1, 30);
        sacks("at first", t, 3, 3, 10, 90, 1, 0, 1, -1, 90);
        sacks("at first", t, 4, 0, 25, 20, 0, -1, -1, -1, 20);
        t.unpack(3);
        sacks("behind unpack", t, 3, 3, 10, 90, 0, -1, -1, -1, 90);
        t.undo();
        t.rest(7);
        t.trip();
        sacks("behind a trip", t, 0, 0, 30, 20, 2, -1, -1, 7, 40);
        sacks("behind a trip", t, 1, 1, 20, 45, 2, -1, -1, 7, 60);
        sacks("behind a trip", t, 3, 3, 10, 90, 2, -1, -1, 7, 90);
        sacks("behind a trip", t, 4, 0, 25, 20, 0, -1, -1, -1, 20);
        t.addStage(1, 9);
        t.pack(4, 0, 1);
        t.set(0, 99);
        t.trip();
        // The first ford wets it, the last one takes it.
        sacks("behind its loss", t, 4, 0, 25, 10, 3, -1, -1, 8, 20);
        Check.thrown("sack(5, 0)", NoSuchElementException.class, () -> t.sack(5, 0));
        Check.thrown("sack(-1, 0)", NoSuchElementException.class, () -> t.sack(-1, 0));
        Check.thrown("sack(LEAST, 0)", NoSuchElementException.class, () -> t.sack(LEAST, 0));
        Check.thrown("sack(MOST, 8)", NoSuchElementException.class, () -> t.sack(MOST, 8));
        Check.thrown("sack(0, 8)", IllegalArgumentException.class, () -> t.sack(0, 8));
        Check.thrown("sack(0, -1)", IllegalArgumentException.class, () -> t.sack(0, -1));
        Check.thrown("sack(0, MOST)", IllegalArgumentException.class, () -> t.sack(0, MOST));
    }

    private static void promise12Stage() {
        MuleTrain t = Check.loaded("train 0 0 0;camp 24;ford 9;road 99;camp 1;ford 1;road 1;road 50;ford 5");
        int[][] way = {{2, 24}, {1, 9}, {0, 99}, {2, 1}, {1, 1}, {0, 1}, {0, 50}, {1, 5}};
        for (int stage = 0; stage < way.length; stage++) {
            Check.due("stage(" + stage + ", 0)", t.stage(stage, 0), way[stage][0]);
            Check.due("stage(" + stage + ", 1)", t.stage(stage, 1), way[stage][1]);
        }
        Check.thrown("stage(8, 0)", NoSuchElementException.class, () -> t.stage(8, 0));
        Check.thrown("stage(-1, 5)", NoSuchElementException.class, () -> t.stage(-1, 5));
        Check.thrown("stage(MOST, 0)", NoSuchElementException.class, () -> t.stage(MOST, 0));
        Check.thrown("stage(0, 2)", IllegalArgumentException.class, () -> t.stage(0, 2));
        Check.thrown("stage(7, -1)", IllegalArgumentException.class, () -> t.stage(7, -1));
        Check.thrown("stage(7, LEAST)", IllegalArgumentException.class, () -> t.stage(7, LEAST));
    }

    private static void promise13Gap() {
        MuleTrain t = Check.loaded("train 99 0 5;mule a 100;mule b 50;sack iron 80 7;sack grain 9 8;sack glass 9 90;sack cloth 1 3;sack glass 1 0;ford 9;road 99;pack 0 a left;pack 1 a right;pack 2 a right;pack 3 b left;pack 4 b left");
        Check.due("gap() at first", t.gap(), 0);
        Check.due("gap() of a new train", new MuleTrain().gap(), 0);
        t.trip();
        Check.due("gap() behind losses", t.gap(), 0);
        t.undo();
        Check.due("gap() behind undo", t.gap(), 0);
        t.unpack(2);
        t.rest(5);
        t.addSack(0, 5, 55);
        t.fill(1);
        Check.due("gap() behind changes", t.gap(), 0);
        t.trip();
        t.addSack(0, 5, 55);
        t.fill(1);
        t.trip();
        Check.due("gap() behind another trip", t.gap(), 0);
        t.save(0);
        t.restore(0);
        Check.due("gap() behind restore", t.gap(), 0);
        Check.due("gap() without anything", Check.loaded("train 0 0 0").gap(), 0);
    }
}
