import java.util.NoSuchElementException;

/** Promises 16 to 25: what would be, where nothing changes. */
public final class WhatWouldBeTest {
    private static final String LOSSES = "train 99 0 5;mule a 100;mule b 50;mule c 90;sack iron 80 7;sack grain 9 8;sack glass 9 90;sack cloth 1 3;sack glass 1 0;sack grain 1 0;sack iron 1 1;ford 9;pack 0 a left;pack 1 a right;pack 2 a right;pack 3 b left;pack 4 b left;pack 5 b right";

    public static void main(String[] args) {
        promise16TripBrings();
        promise17Fate();
        promise18TiredBy();
        promise19BestWorth();
        promise20BestSack();
        promise21Lighter();
        promise22FreshIn();
        promise23Deepest();
        promise24WorthOfLoads();
        promise25Filled();
        nothingChanges();
        Check.end();
    }

    private static void noSuchMule(String name, MuleTrain t, java.util.function.IntToDoubleFunction call) {
        for (int mule : new int[] {-1, t.value(0), Integer.MIN_VALUE, Integer.MAX_VALUE}) {
            Check.thrown(name + "(" + mule + ")", NoSuchElementException.class, () -> call.applyAsDouble(mule));
        }
    }

    private static void promise16TripBrings() {
        MuleTrain t = new MuleTrain();
        Check.due("tripBrings()", t.tripBrings(), 149);
        Check.due("tripBrings() again", t.tripBrings(), 149);
        t.set(0, 0);
        Check.due("tripBrings() of mules that are not level", t.tripBrings(), 149);
        t.unpack(1);
        Check.due("tripBrings() of one mule", t.tripBrings(), 107);
        t.unpack(0);
        t.unpack(3);
        Check.due("tripBrings() without sacks", t.tripBrings(), 0);
        // Both of the mules that go are paid 5, and of the sacks only the cloth of 2 is worth something then.
        MuleTrain losses = Check.loaded(LOSSES);
        Check.due("tripBrings() of losses", losses.tripBrings(), -8);
        Check.due("trip() of losses", losses.trip(), -8);
        for (int times = 0; times < 100; times++) {
            losses.rest(99);
        }
        losses.rest(98);
        losses.pack(6, 1, 0);
        Check.due("tripBrings() on the last DAY", losses.tripBrings(), -4);
        Check.due("tripBrings() without mules", Check.loaded("train 9 9 9").tripBrings(), 0);
    }

    private static void promise17Fate() {
        MuleTrain t = new MuleTrain();
        int[] fates = {2, 2, 0, 1, 0};
        for (int sack = 0; sack < 5; sack++) {
            Check.due("fate(" + sack + ")", t.fate(sack), fates[sack]);
        }
        t.set(0, 0);
        Check.due("fate of a sack on a mule that is not level", t.fate(0), 2);
        t.set(0, 99);
        t.addStage(1, 9);
        int[] later = {3, 2, 0, 3, 0};
        t.unpack(3);
        t.pack(3, 1, 1);
        Check.due("fate(0) with a ford of 9", t.fate(0), later[0]);
        // Moll is tired by 40 * (30 * 10 / 60 + 1) / 10 = 24 less 8, bears 50, and behind the last ford 5: all is lost.
        Check.due("fate(1) with a ford of 9", t.fate(1), 3);
        Check.due("fate(3) with a ford of 9", t.fate(3), 3);
        t.trip();
        Check.due("fate of a lost sack", t.fate(0), 0);
        MuleTrain losses = Check.loaded(LOSSES);
        int[] lost = {3, 3, 2, 2, 1, 1, 0};
        for (int sack = 0; sack < 7; sack++) {
            Check.due("fate(" + sack + ") of losses", losses.fate(sack), lost[sack]);
        }
        losses.trip();
        Check.due("fate of a delivered sack", losses.fate(3), 0);
        for (int sack : new int[] {-1, 7, Integer.MIN_VALUE, Integer.MAX_VALUE}) {
            Check.thrown("fate(" + sack + ")", NoSuchElementException.class, () -> losses.fate(sack));
        }
    }

    private static void promise18TiredBy() {
        MuleTrain t = new MuleTrain();
        Check.due("tiredBy(0)", t.tiredBy(0), 12);
        Check.due("tiredBy(1)", t.tiredBy(1), 8);
        t.set(0, 0);
        Check.due("tiredBy(0) of a mule that is not level", t.tiredBy(0), 12);
        t.unpack(1);
        Check.due("tiredBy(1) of a mule without sacks", t.tiredBy(1), 0);
        t.undo();
        t.undo();
        t.trip();
        Check.due("tiredBy(1) behind a trip, without sacks", t.tiredBy(1), 8);
        // 99 miles with 9 * 10 / 10 + 1 tire a by 99; then it has lost its sack, and 9 more would be 108.
        MuleTrain far = Check.loaded("train 99 0 0;mule a 10;mule b 300;sack iron 9 1;sack iron 90 1;road 99;road 99;pack 0 a left;pack 1 b left");
        Check.due("tiredBy of a far way", far.tiredBy(0), 100);
        Check.due("tiredBy of a stronger one", far.tiredBy(1), 78);
        far.dropStage(0);
        Check.due("tiredBy of one road", far.tiredBy(0), 99);
        far.addStage(0, 99);
        far.set(1, 50);
        far.addStage(2, 3);
        Check.due("tiredBy behind a camp", far.tiredBy(0), 85);
        far.addStage(2, 17);
        Check.due("tiredBy behind a longer camp", far.tiredBy(0), 0);
        far.set(1, 3);
        Check.due("tiredBy with 3 * 3 / 10 and 3 * 17 / 10", far.tiredBy(0), 95);
        noSuchMule("tiredBy", far, mule -> far.tiredBy(mule));
    }

    private static void promise19BestWorth() {
        MuleTrain t = new MuleTrain();
        Check.due("bestWorth(0)", t.bestWorth(0), 30);
        Check.due("bestWorth(1)", t.bestWorth(1), 20);
        t.unpack(1);
        Check.due("bestWorth(1) with cloth", t.bestWorth(1), 80);
        Check.due("bestWorth(0) with cloth", t.bestWorth(0), 80);
        t.unpack(0);
        Check.due("bestWorth(0) with cloth and both grains", t.bestWorth(0), 120);
        // The best for its weight is not in the best load: 10 bears 5 and 5, but not 6 and 5.
        MuleTrain u = Check.loaded("train 0 0 0;mule a 10;mule b 17;sack iron 6 13;sack iron 5 10;sack iron 5 10;sack iron 11 999");
        Check.due("bestWorth of 10", u.bestWorth(0), 20);
        Check.due("bestWorth of 17", u.bestWorth(1), 1012);
        Check.due("bestSack of 10", u.bestSack(0), 0);
        u.pack(1, 0, 0);
        Check.due("bestWorth of 5 left", u.bestWorth(0), 10);
        u.pack(2, 0, 1);
        Check.due("bestWorth of a full mule", u.bestWorth(0), 0);
        StringBuilder many = new StringBuilder("train 0 0 0;mule a 300;mule b 299");
        for (int sack = 0; sack < 16; sack++) {
            many.append(";sack iron ").append(20 - sack / 14).append(' ').append(990 + sack % 10);
        }
        MuleTrain full = Check.loaded(many.toString());
        // Two of the 16 sacks weigh 19, so that 15 of them weigh 298 with both; the one of WORTH 990 that is left stands twice.
        Check.due("bestWorth of 16 sacks", full.bestWorth(0), 15 * 990 + 45 + 15);
        Check.due("bestWorth of 299", full.bestWorth(1), 15 * 990 + 45 + 15);
        Check.due("bestWorth without sacks", Check.loaded("train 0 0 0;mule a 300").bestWorth(0), 0);
        MuleTrain again = Check.loaded("train 99 0 0;mule a 10;mule b 10;sack iron 10 77");
        Check.due("bestWorth before pack", again.bestWorth(1), 77);
        again.pack(0, 0, 0);
        Check.due("bestWorth behind pack, with the same room", again.bestWorth(1), 0);
        MuleTrain free = Check.loaded("train 0 0 0;mule a 10;sack iron 10 0");
        Check.due("bestWorth of worthless sacks", free.bestWorth(0), 0);
        noSuchMule("bestWorth", u, mule -> u.bestWorth(mule));
    }

    private static void promise20BestSack() {
        MuleTrain t = new MuleTrain();
        Check.due("bestSack(0)", t.bestSack(0), 4);
        Check.due("bestSack(1)", t.bestSack(1), 4);
        t.unpack(3);
        Check.due("bestSack(0) with glass", t.bestSack(0), 3);
        // 2 / 3 is less than 5 / 7, though both are 0 as whole numbers; 10 / 14 is like 5 / 7.
        MuleTrain u = Check.loaded("train 0 0 0;mule a 14;mule b 13;mule c 10;sack iron 3 2;sack iron 14 10;sack iron 7 5;sack iron 99 999;sack iron 11 0");
        Check.due("bestSack of alike fractions", u.bestSack(0), 1);
        Check.due("bestSack of 13", u.bestSack(1), 2);
        u.pack(2, 2, 0);
        Check.due("bestSack of 3 left", u.bestSack(2), 0);
        u.pack(0, 2, 0);
        Check.due("bestSack of a full mule", u.bestSack(2), -1);
        u.pack(1, 0, 0);
        Check.due("bestSack of the worthless", u.bestSack(1), 4);
        Check.due("bestSack without sacks", Check.loaded("train 0 0 0;mule a 300").bestSack(0), -1);
        noSuchMule("bestSack", u, mule -> u.bestSack(mule));
    }

    private static void promise21Lighter() {
        MuleTrain t = new MuleTrain();
        Check.due("lighter(0)", t.lighter(0), 1);
        Check.due("lighter(1)", t.lighter(1), 1);
        t.shift(1);
        Check.due("lighter(1) behind shift", t.lighter(1), 0);
        t.unpack(1);
        Check.due("lighter(1) without sacks", t.lighter(1), 0);
        MuleTrain u = Check.loaded("train 0 0 0;mule a 30;sack iron 10 1;sack iron 9 1;sack iron 1 1;pack 0 a left;pack 1 a right");
        Check.due("lighter with 10 and 9", u.lighter(0), 1);
        u.pack(2, 0, 1);
        Check.due("lighter with 10 and 10", u.lighter(0), 0);
        noSuchMule("lighter", u, mule -> u.lighter(mule));
    }

    private static void promise22FreshIn() {
        MuleTrain t = new MuleTrain();
        Check.due("freshIn(0)", t.freshIn(0), 0);
        t.trip();
        Check.due("freshIn(0) with 12, EASE 10", t.freshIn(0), 2);
        Check.due("freshIn(1) with 8, EASE 10", t.freshIn(1), 1);
        t.set(1, 12);
        Check.due("freshIn(0) with 12, EASE 12", t.freshIn(0), 1);
        t.set(1, 11);
        Check.due("freshIn(0) with 12, EASE 11", t.freshIn(0), 2);
        t.set(1, 1);
        Check.due("freshIn(0) with 12, EASE 1", t.freshIn(0), 12);
        t.set(1, 0);
        Check.due("freshIn(0) with 12, EASE 0", t.freshIn(0), -1);
        t.set(1, 50);
        t.rest(1);
        t.set(1, 0);
        Check.due("freshIn(0) with 0, EASE 0", t.freshIn(0), 0);
        Check.due("freshIn(0) with 1, EASE 50", Check.loaded("train 99 50 0;mule a 10;sack iron 1 1;road 5;pack 0 a left;trip").freshIn(0), 1);
        noSuchMule("freshIn", t, mule -> t.freshIn(mule));
    }

    private static void promise23Deepest() {
        MuleTrain t = new MuleTrain();
        Check.due("deepest(0)", t.deepest(0), 6);
        Check.due("deepest(1)", t.deepest(1), 6);
        t.unpack(1);
        Check.due("deepest(1) without sacks", t.deepest(1), 9);
        MuleTrain u = Check.loaded("train 99 0 0;mule a 100;mule b 19;sack iron 10 1;sack iron 1 1;sack iron 79 1;sack iron 1 1;sack iron 1 1;sack iron 1 1;pack 0 a left;pack 3 b left");
        Check.due("deepest with 10 of 100", u.deepest(0), 9);
        u.pack(1, 0, 0);
        Check.due("deepest with 11 of 100", u.deepest(0), 8);
        u.pack(2, 0, 1);
        Check.due("deepest with 90 of 100", u.deepest(0), 1);
        u.pack(4, 0, 1);
        Check.due("deepest with 91 of 100", u.deepest(0), 0);
        Check.due("deepest with 1 of 19", u.deepest(1), 9);
        u.pack(5, 1, 0);
        Check.due("deepest with 2 of 19", u.deepest(1), 8);
        // It is asked as it is now: the way does not make it tired first.
        u.addStage(0, 99);
        Check.due("deepest with a road", u.deepest(1), 8);
        noSuchMule("deepest", u, mule -> u.deepest(mule));
    }

    private static void promise24WorthOfLoads() {
        MuleTrain t = new MuleTrain();
        Check.due("worthOfLoads()", t.worthOfLoads(), 190.0 / 60.0);
        t.unpack(1);
        Check.due("worthOfLoads() of one mule", t.worthOfLoads(), 3.25);
        t.unpack(0);
        t.unpack(3);
        Check.due("worthOfLoads() without loads", t.worthOfLoads(), 0.0);
        MuleTrain u = Check.loaded("train 99 0 0;mule a 100;mule b 100;sack iron 2 1;sack iron 1 0;sack iron 50 900;pack 1 b left");
        Check.due("worthOfLoads() of worthless", u.worthOfLoads(), 0.0);
        MuleTrain light = Check.loaded("train 99 0 0;mule a 100;sack iron 1 7;pack 0 a left");
        Check.due("worthOfLoads() of one of WEIGHT 1", light.worthOfLoads(), 7.0);
        u.pack(0, 0, 1);
        Check.due("worthOfLoads() of a third", u.worthOfLoads(), 1.0 / 3.0);
        u.trip();
        Check.due("worthOfLoads() behind a trip", u.worthOfLoads(), 0.0);
    }

    private static void promise25Filled() {
        MuleTrain t = new MuleTrain();
        Check.due("filled(0)", t.filled(0), 0.4f);
        Check.due("filled(1)", t.filled(1), 20.0f / 60.0f);
        t.unpack(1);
        Check.due("filled(1) without sacks", t.filled(1), 0.0f);
        t.fill(0);
        t.addSack(0, 15, 0);
        t.fill(0);
        Check.due("filled(0) behind fill", t.filled(0), 1.0f);
        MuleTrain u = Check.loaded("train 99 0 0;mule a 10;sack iron 9 1;road 99;road 99;road 99;pack 0 a left;trip");
        Check.due("what it bears with TIRED 100", u.mule(0, 2), 0);
        Check.due("filled with TIRED 100", u.filled(0), 0.0f);
        MuleTrain v = Check.loaded("train 99 0 0;mule a 10;sack iron 9 1;sack iron 1 1;road 90;pack 0 a left;trip;pack 1 a left");
        Check.due("what it bears with TIRED 90", v.mule(0, 2), 1);
        Check.due("filled with 1 of 1", v.filled(0), 1.0f);
        Check.due("bestWorth with TIRED 100", u.bestWorth(0), 0);
        Check.due("deepest with TIRED 100", u.deepest(0), 9);
        noSuchMule("filled", u, mule -> u.filled(mule));
    }

    private static void nothingChanges() {
        MuleTrain t = Check.loaded(LOSSES);
        t.addSack(0, 1, 5);
        t.writeWay();
        String before = Check.all(t);
        t.tripBrings();
        t.fate(0);
        t.tiredBy(0);
        t.bestWorth(0);
        t.bestSack(0);
        t.lighter(0);
        t.freshIn(0);
        t.deepest(0);
        t.worthOfLoads();
        t.filled(0);
        if (!before.equals(Check.all(t))) {
            Check.fault("a question changed the train");
        }
        Check.due("changes behind questions", t.value(10), 1);
        Check.output("output behind questions", t, 5, "ford9");
    }
}
