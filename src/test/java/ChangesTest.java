import java.util.NoSuchElementException;

/** Promises 26 to 36: the changes. Each one that does not throw can be undone; one that throws changes nothing. */
public final class ChangesTest {
    private static final int LEAST = Integer.MIN_VALUE;
    private static final int MOST = Integer.MAX_VALUE;
    private static final Class<?> NO_SUCH = NoSuchElementException.class;
    private static final Class<?> ARGUMENT = IllegalArgumentException.class;
    private static final Class<?> STATE = IllegalStateException.class;

    public static void main(String[] args) {
        promise26Pack();
        promise27Unpack();
        promise28Fill();
        promise29Shift();
        promise30Trip();
        promise30Road();
        promise30Ford();
        promise30Wet();
        promise30Camp();
        promise30Days();
        promise31Rest();
        promise32AddSack();
        promise33AddStage();
        promise34DropStage();
        promise35Set();
        promise36Restore();
        Check.end();
    }

    /** The change answers what is due, counts as one change, and is undone. */
    private static void change(String name, MuleTrain t, int due, Check.Call call) {
        String before = Check.brief(t);
        int changes = Math.min(10, t.value(10) + 1);
        Check.due(name, call.answer(), due);
        Check.due("changes behind " + name, t.value(10), changes);
        String behind = Check.brief(t);
        Check.due("undo() of " + name, t.undo(), changes - 1);
        if (!before.equals(Check.brief(t))) {
            Check.fault(name + " was not undone");
        }
        Check.due(name + " again", call.answer(), due);
        if (!behind.equals(Check.brief(t))) {
            Check.fault(name + " did something else behind undo()");
        }
    }

    private static void refused(String name, MuleTrain t, Class<?> due, Check.Call call) {
        String before = Check.brief(t);
        int changes = t.value(10);
        Check.thrown(name, due, call);
        Check.due("changes behind " + name, t.value(10), changes);
        if (!before.equals(Check.brief(t))) {
            Check.fault(name + " changed something, though it threw");
        }
    }

    private interface Wrong {
        double answer(MuleTrain train);
    }

    /** A call on a new train that is refused for its arguments. */
    private static void wrong(String name, Class<?> due, Wrong call) {
        MuleTrain t = new MuleTrain();
        refused(name, t, due, () -> call.answer(t));
    }

    private static void promise26Pack() {
        MuleTrain t = new MuleTrain();
        change("pack(2, 0, 1)", t, 90, () -> t.pack(2, 0, 1));
        Check.due("side of the iron", t.sack(2, 5), 1);
        Check.due("mule of the iron", t.sack(2, 4), 0);
        Check.due("PLACE of the iron", t.sack(2, 3), 1);
        refused("pack of what is too heavy", t, STATE, () -> t.pack(4, 0, 0));
        change("pack(4, 1, 0)", t, 45, () -> t.pack(4, 1, 0));
        Check.due("left side of moll", t.mule(1, 4), 45);
        refused("pack of what is packed", t, STATE, () -> t.pack(4, 0, 0));
        wrong("pack(5, 0, 0)", NO_SUCH, x -> x.pack(5, 0, 0));
        wrong("pack(-1, 0, 0)", NO_SUCH, x -> x.pack(-1, 0, 0));
        wrong("pack(0, 2, 0)", NO_SUCH, x -> x.pack(0, 2, 0));
        wrong("pack(0, -1, 0)", NO_SUCH, x -> x.pack(0, -1, 0));
        wrong("pack(5, 0, 2)", NO_SUCH, x -> x.pack(5, 0, 2));
        wrong("pack(0, 2, 2)", NO_SUCH, x -> x.pack(0, 2, 2));
        wrong("pack(MOST, LEAST, MOST)", NO_SUCH, x -> x.pack(MOST, LEAST, MOST));
        wrong("pack(0, 0, 2)", ARGUMENT, x -> x.pack(0, 0, 2));
        wrong("pack(0, 0, -1)", ARGUMENT, x -> x.pack(0, 0, -1));
        wrong("pack(0, 0, LEAST)", ARGUMENT, x -> x.pack(0, 0, LEAST));
        MuleTrain u = new MuleTrain();
        u.addSack(0, 60, 0);
        refused("pack with a side that is not, of a sack that cannot be packed", u, ARGUMENT, () -> u.pack(0, 0, 3));
        change("pack of all that it bears", u, 100, () -> u.pack(5, 0, 0));
        u.set(0, 99);
        u.trip();
        refused("pack of what is lost or delivered", u, STATE, () -> u.pack(0, 0, 0));
    }

    private static void promise27Unpack() {
        MuleTrain t = new MuleTrain();
        change("unpack(0)", t, 10, () -> t.unpack(0));
        Check.due("PLACE behind unpack", t.sack(0, 3), 0);
        Check.due("mule behind unpack", t.sack(0, 4), -1);
        Check.due("side behind unpack", t.sack(0, 5), -1);
        change("unpack(1)", t, 0, () -> t.unpack(1));
        change("unpack(3)", t, 0, () -> t.unpack(3));
        refused("unpack of what is in the store", t, STATE, () -> t.unpack(3));
        wrong("unpack(5)", NO_SUCH, x -> x.unpack(5));
        wrong("unpack(-1)", NO_SUCH, x -> x.unpack(-1));
        wrong("unpack(MOST)", NO_SUCH, x -> x.unpack(MOST));
        MuleTrain u = new MuleTrain();
        u.trip();
        refused("unpack of what is delivered", u, STATE, () -> u.unpack(0));
    }

    private static void promise28Fill() {
        MuleTrain t = new MuleTrain();
        change("fill(0)", t, 1, () -> t.fill(0));
        Check.due("side of the grain", t.sack(4, 5), 1);
        change("fill(0) of a full mule", t, 0, () -> t.fill(0));
        change("fill(1) without what it could bear", t, 0, () -> t.fill(1));
        // By WORTH for WEIGHT: 1 (9), 0 (5), 3 (5 too), 2 (4); then 9 more are too many, so that 5 (0) is next.
        MuleTrain u = Check.loaded("train 0 0 0;mule a 25;sack iron 6 30;sack iron 4 36;sack cloth 5 20;sack glass 6 30;sack grain 9 9;sack grain 2 0;sack grain 3 0");
        change("fill(0) of six", u, 5, () -> u.fill(0));
        // The sides become left 4, right 6, left 10, right 11, left 12, as the lighter one gets each.
        Check.output("writeMule(0) behind fill", u, u.writeMule(0), "a:1,3,5|0,2=23");
        change("fill of nothing", u, 0, () -> u.fill(0));
        StringBuilder many = new StringBuilder("train 0 0 0;mule a 300");
        for (int sack = 0; sack < 16; sack++) {
            many.append(";sack iron 2 5");
        }
        MuleTrain full = Check.loaded(many.toString());
        change("fill of 16", full, 16, () -> full.fill(0));
        Check.output("writeMule(0) behind fill of 16", full, full.writeMule(0), "a:0,2,4,6,8,10,12,14|1,3,5,7,9,11,13,15=32");
        wrong("fill(2)", NO_SUCH, x -> x.fill(2));
        wrong("fill(-1)", NO_SUCH, x -> x.fill(-1));
        wrong("fill(MOST)", NO_SUCH, x -> x.fill(MOST));
    }

    private static void promise29Shift() {
        MuleTrain t = new MuleTrain();
        change("shift(0)", t, 40, () -> t.shift(0));
        Check.due("side behind shift", t.sack(0, 5), 1);
        change("shift(3)", t, 20, () -> t.shift(3));
        Check.due("left side behind shift", t.mule(0, 4), 10);
        change("shift(0) back", t, 40, () -> t.shift(0));
        Check.due("LOAD behind shift", t.mule(0, 3), 40);
        refused("shift of what is in the store", t, STATE, () -> t.shift(2));
        wrong("shift(5)", NO_SUCH, x -> x.shift(5));
        wrong("shift(-1)", NO_SUCH, x -> x.shift(-1));
        wrong("shift(LEAST)", NO_SUCH, x -> x.shift(LEAST));
        MuleTrain u = new MuleTrain();
        u.trip();
        refused("shift of what is delivered", u, STATE, () -> u.shift(0));
    }

    private static void promise30Trip() {
        MuleTrain t = new MuleTrain();
        change("trip()", t, 149, () -> t.trip());
        Check.due("MONEY behind trip", t.value(8), 149);
        Check.due("DAY behind trip", t.value(7), 1);
        refused("trip() without sacks", t, STATE, () -> t.trip());
        t.pack(4, 0, 1);
        refused("trip() of a mule that is not level", t, STATE, () -> t.trip());
        t.set(0, 25);
        // One mule is paid: 20 / 2 less 3.
        change("trip() with TILT 25", t, 7, () -> t.trip());
        Check.due("MONEY behind both", t.value(8), 156);
        MuleTrain poor = Check.loaded("train 99 0 50;mule a 50;mule b 50;mule c 50;sack iron 1 7;sack iron 1 7;pack 0 a left;pack 1 c left");
        change("trip() without a way", poor, -86, () -> poor.trip());
        Check.due("MONEY below 0", poor.value(8), -86);
    }

    private static void promise30Road() {
        // 37 * 10 / 91 = 4, 15 * 5 / 10 = 7; 7 more are 14, and 91 * 86 / 100 = 78 bears it.
        MuleTrain t = Check.loaded("train 99 0 0;mule a 91;sack iron 37 1;road 15;road 15;pack 0 a left;trip");
        Check.due("TIRED behind two roads", t.mule(0, 1), 14);
        Check.due("PLACE behind two roads", t.sack(0, 3), 2);
        // 99 of 100: 10 + 10 * 10 / 10: TIRED 10 bears 90; 5 and 5 are the least, by number; then 89 of them make 9 * 10 / 10 more.
        MuleTrain u = Check.loaded("train 99 0 0;mule a 100;sack iron 80 50;sack grain 9 6;sack glass 5 5;sack cloth 5 5;road 10;pack 0 a left;pack 1 a right;pack 2 a right;pack 3 a left;trip");
        Check.due("TIRED behind the road", u.mule(0, 1), 10);
        int[] places = {2, 2, 3, 3};
        for (int sack = 0; sack < 4; sack++) {
            Check.due("PLACE of " + sack + " behind the road", u.sack(sack, 3), places[sack]);
        }
        Check.due("WORTH lost on the road", u.count(2), 10);
        Check.due("glass does not break on a road", u.count(4), 0);
        Check.due("MONEY behind the road", u.value(8), 56);
        // Only one of the alike is lost if this is enough, the first.
        MuleTrain v = Check.loaded("train 99 0 0;mule a 100;sack iron 85 50;sack cloth 7 5;sack glass 7 5;road 10;pack 2 a left;pack 0 a right;pack 1 a left;trip");
        Check.due("PLACE of the first of the alike", v.sack(1, 3), 3);
        Check.due("PLACE of the second of the alike", v.sack(2, 3), 3);
        MuleTrain w = Check.loaded("train 99 0 0;mule a 100;sack iron 80 50;sack cloth 10 5;sack glass 10 5;road 10;pack 2 a left;pack 0 a right;pack 1 a left;trip");
        // 100 * 10 / 100 + 1 = 11, so TIRED 11 bears 89: both are still lost one after the other until 80 are left.
        Check.due("TIRED of a full mule", w.mule(0, 1), 11);
        Check.due("sacks lost by a full mule", w.value(5), 2);
    }

    private static void promise30Ford() {
        // At depth 3 it bears 100 * 7 / 10 = 70; 71 are too many, and the one of least WORTH is not the lightest.
        MuleTrain t = Check.loaded("train 99 0 0;mule a 100;mule b 99;sack iron 31 4;sack glass 10 8;sack grain 30 9;sack glass 50 9;sack iron 19 6;sack glass 60 5;ford 3;pack 0 a left;pack 1 a right;pack 2 a right;pack 3 b left;pack 4 b left;trip");
        int[] places = {3, 2, 2, 2, 2, 0};
        int[] worths = {4, 0, 9, 9, 6, 5};
        for (int sack = 0; sack < 6; sack++) {
            Check.due("PLACE of " + sack + " behind the ford", t.sack(sack, 3), places[sack]);
            Check.due("WORTH of " + sack + " behind the ford", t.sack(sack, 2), worths[sack]);
        }
        Check.due("WORTH of glass that broke", t.count(4), 8);
        Check.due("WORTH lost in the ford", t.count(2), 4);
        Check.due("sacks that got wet", t.count(6), 0);
        Check.due("MONEY behind the ford", t.value(8), 24);
        // 99 * 7 / 10 = 69 bears what b has; what a tired mule bears is rounded down before it is taken by the ford.
        MuleTrain u = Check.loaded("train 99 0 0;mule a 19;sack iron 1 1;sack iron 9 1;road 10;ford 5;pack 0 a left;pack 1 a right;trip");
        // 10 * 10 / 19 = 5, so TIRED 6 bears 19 * 94 / 100 = 17, and 17 * 5 / 10 = 8: 0 goes first, and 9 are still too many.
        Check.due("TIRED before the ford", u.mule(0, 1), 6);
        Check.due("sacks lost in the ford", u.value(5), 2);
        Check.due("DAY of the loss", u.sack(1, 6), 0);
        MuleTrain v = Check.loaded("train 99 0 9;mule a 100;sack glass 40 50;sack glass 11 1;ford 6;ford 5;ford 6;road 50;pack 0 a left;pack 1 a right;trip");
        // Both fords of 6 take a sack; what broke in the first one is not lost again in the second.
        MuleTrain w = Check.loaded("train 99 0 0;mule a 100;sack iron 31 1;sack iron 21 2;sack glass 9 50;sack glass 9 40;ford 4;ford 7;pack 0 a left;pack 1 a right;pack 2 a left;pack 3 a left;trip");
        Check.due("WORTH of glass that broke once", w.count(4), 90);
        Check.due("gap() behind two fords that break", w.gap(), 0);
        Check.due("MONEY of broken glass", v.value(8), -9);
        Check.due("count(4) of broken glass", v.count(4), 50);
        Check.due("count(6) of broken glass", v.count(6), 3);
    }

    private static void promise30Wet() {
        String text = "train 99 0 0;mule a 300;sack grain 1 7;sack cloth 1 7;sack iron 1 7;sack glass 1 7;sack grain 1 0;sack grain 1 1;sack cloth 1 1;pack 0 a left;pack 1 a right;pack 2 a right;pack 3 a left;pack 4 a left;pack 5 a left;pack 6 a left;ford ";
        MuleTrain dry = Check.loaded(text + "4;trip");
        Check.due("sacks that get wet at 4", dry.count(6), 0);
        Check.due("MONEY at 4", dry.value(8), 30);
        MuleTrain wet = Check.loaded(text + "5;trip");
        int[] worths = {3, 5, 7, 7, 0, 0, 0};
        for (int sack = 0; sack < 7; sack++) {
            Check.due("WORTH of " + sack + " at 5", wet.sack(sack, 2), worths[sack]);
        }
        Check.due("sacks that get wet at 5", wet.count(6), 7);
        Check.due("WORTH lost by wetting at 5", wet.count(3), 8);
        MuleTrain twice = Check.loaded(text + "5;ford 9;trip");
        int[] later = {1, 3, 7, 7, 0, 0, 0};
        for (int sack = 0; sack < 7; sack++) {
            Check.due("WORTH of " + sack + " at 5 and 9", twice.sack(sack, 2), later[sack]);
        }
        Check.due("sacks that get wet at 5 and 9", twice.count(6), 14);
        // What is wet is worth 5 as it is lost: less than the iron, of which it was told to be worth more.
        MuleTrain worse = Check.loaded("train 99 0 0;mule a 100;sack grain 9 10;sack iron 9 7;ford 5;ford 9;pack 1 a left;pack 0 a right;trip");
        Check.due("WORTH lost behind wetting", worse.count(2), 5);
        Check.due("PLACE of the grain behind wetting", worse.sack(0, 3), 3);
        Check.due("PLACE of the iron behind wetting", worse.sack(1, 3), 2);
        MuleTrain other = Check.loaded("train 99 0 0;mule a 100;sack iron 9 7;sack grain 9 10;ford 5;ford 9;pack 1 a left;pack 0 a right;trip");
        Check.due("PLACE of the grain with a greater number", other.sack(1, 3), 3);
        // The greatest WORTH: 3 * 999 / 4 = 749.
        MuleTrain dear = Check.loaded("train 99 0 0;mule a 300;sack cloth 1 999;sack grain 1 999;ford 5;pack 0 a left;pack 1 a right;trip");
        Check.due("MONEY of the dear", dear.value(8), 749 + 499);
    }

    private static void promise30Camp() {
        MuleTrain t = Check.loaded("train 99 7 0;mule a 50;mule b 50;sack iron 1 1;sack iron 1 1;sack iron 1 1;road 99;pack 0 a left;pack 1 b left;trip");
        Check.due("TIRED behind a road of 99", t.mule(0, 1), 9);
        t.dropStage(0);
        t.addStage(2, 9);
        t.pack(2, 0, 0);
        t.trip();
        Check.due("TIRED of a mule that was in the camp", t.mule(0, 1), 3);
        Check.due("TIRED of a mule that stayed", t.mule(1, 1), 9);
        t.addSack(0, 1, 1);
        t.fill(0);
        t.trip();
        Check.due("TIRED at least 0", t.mule(0, 1), 0);
        // It goes on without a sack, and is paid: 99 * (0 + 1) / 10 = 9 more behind the ford.
        MuleTrain u = Check.loaded("train 99 1 5;mule a 10;mule b 10;sack iron 2 9;ford 9;road 99;camp 24;pack 0 a left;trip");
        Check.due("TIRED of a mule that lost all", u.mule(0, 1), 7);
        Check.due("MONEY of a mule that lost all", u.value(8), -5);
        Check.due("TIRED of a mule without sacks", u.mule(1, 1), 0);
    }

    private static void promise30Days() {
        MuleTrain t = new MuleTrain();
        for (int times = 0; times < 100; times++) {
            t.rest(99);
        }
        t.rest(98);
        change("trip() on DAY 9998", t, 149, () -> t.trip());
        Check.due("the last DAY", t.value(7), 9999);
        Check.due("DAY on which it was delivered", t.sack(0, 6), 9998);
        t.addSack(0, 1, 1);
        t.pack(5, 0, 0);
        refused("trip() on DAY 9999", t, STATE, () -> t.trip());
    }

    private static void promise31Rest() {
        MuleTrain t = new MuleTrain();
        t.trip();
        change("rest(1)", t, 2, () -> t.rest(1));
        Check.due("TIRED of jen behind a day", t.mule(0, 1), 2);
        Check.due("TIRED of moll behind a day", t.mule(1, 1), 0);
        Check.due("DAY behind a day", t.value(7), 2);
        t.undo();
        t.set(1, 3);
        change("rest(2) with EASE 3", t, 6 + 2, () -> t.rest(2));
        t.set(1, 0);
        change("rest(99) with EASE 0", t, 8, () -> t.rest(99));
        Check.due("DAY behind 99 days", t.value(7), 102);
        wrong("rest(0)", ARGUMENT, x -> x.rest(0));
        wrong("rest(100)", ARGUMENT, x -> x.rest(100));
        wrong("rest(-1)", ARGUMENT, x -> x.rest(-1));
        wrong("rest(MOST)", ARGUMENT, x -> x.rest(MOST));
        wrong("rest(LEAST)", ARGUMENT, x -> x.rest(LEAST));
        MuleTrain u = new MuleTrain();
        for (int times = 0; times < 100; times++) {
            u.rest(99);
        }
        u.rest(97);
        refused("rest(3) on DAY 9997", u, STATE, () -> u.rest(3));
        u.rest(2);
        refused("rest(1) on DAY 9999", u, STATE, () -> u.rest(1));
        refused("rest(100) on DAY 9999", u, ARGUMENT, () -> u.rest(100));
        Check.due("rest without mules", Check.loaded("train 0 50 0").rest(99), 0);
    }

    private static void promise32AddSack() {
        MuleTrain t = new MuleTrain();
        change("addSack(3, 99, 999)", t, 5, () -> t.addSack(3, 99, 999));
        int[] facts = {3, 99, 999, 0, -1, -1, -1, 999};
        for (int what = 0; what < facts.length; what++) {
            Check.due("sack(5, " + what + ")", t.sack(5, what), facts[what]);
        }
        change("addSack(0, 1, 0)", t, 6, () -> t.addSack(0, 1, 0));
        wrong("addSack(-1, 1, 1)", ARGUMENT, x -> x.addSack(-1, 1, 1));
        wrong("addSack(4, 1, 1)", ARGUMENT, x -> x.addSack(4, 1, 1));
        wrong("addSack(0, 0, 1)", ARGUMENT, x -> x.addSack(0, 0, 1));
        wrong("addSack(0, 100, 1)", ARGUMENT, x -> x.addSack(0, 100, 1));
        wrong("addSack(0, 1, -1)", ARGUMENT, x -> x.addSack(0, 1, -1));
        wrong("addSack(0, 1, 1000)", ARGUMENT, x -> x.addSack(0, 1, 1000));
        wrong("addSack(LEAST, MOST, MOST)", ARGUMENT, x -> x.addSack(LEAST, MOST, MOST));
        for (int sack = 7; sack < 16; sack++) {
            Check.due("addSack " + sack, t.addSack(sack % 4, sack, 10 * sack), sack);
        }
        refused("addSack of a 17th", t, STATE, () -> t.addSack(0, 1, 1));
        refused("addSack of a 17th that is none", t, ARGUMENT, () -> t.addSack(0, 0, 1));
        Check.due("kind of the last", t.sack(15, 0), 3);
        Check.due("WEIGHT of the last", t.sack(15, 1), 15);
        Check.due("WORTH of the last", t.sack(15, 2), 150);
        t.undo();
        Check.due("addSack behind undo", t.addSack(1, 2, 3), 15);
        Check.due("WEIGHT of the last behind it", t.sack(15, 1), 2);
    }

    private static void promise33AddStage() {
        MuleTrain t = new MuleTrain();
        change("addStage(0, 99)", t, 3, () -> t.addStage(0, 99));
        change("addStage(1, 9)", t, 4, () -> t.addStage(1, 9));
        change("addStage(2, 24)", t, 5, () -> t.addStage(2, 24));
        int[][] wrong = {{-1, 1}, {3, 1}, {0, 0}, {0, 100}, {1, 0}, {1, 10}, {2, 0}, {2, 25}, {LEAST, MOST}, {0, LEAST}, {2, MOST}};
        for (int[] each : wrong) {
            wrong("addStage(" + each[0] + ", " + each[1] + ")", ARGUMENT, x -> x.addStage(each[0], each[1]));
        }
        Check.due("addStage(0, 1)", t.addStage(0, 1), 6);
        Check.due("addStage(1, 1)", t.addStage(1, 1), 7);
        refused("addStage of a 9th", t, STATE, () -> t.addStage(0, 1));
        refused("addStage of a 9th that is none", t, ARGUMENT, () -> t.addStage(1, 10));
        Check.output("writeWay() behind addStage", t, t.writeWay(), "road40 ford5 camp8 road99 ford9 camp24 road1 ford1");
    }

    private static void promise34DropStage() {
        MuleTrain t = new MuleTrain();
        wrong("dropStage(3)", NO_SUCH, x -> x.dropStage(3));
        wrong("dropStage(-1)", NO_SUCH, x -> x.dropStage(-1));
        wrong("dropStage(MOST)", NO_SUCH, x -> x.dropStage(MOST));
        change("dropStage(1)", t, 2, () -> t.dropStage(1));
        Check.output("writeWay() behind dropStage(1)", t, t.writeWay(), "road40 camp8");
        change("dropStage(1) of the last", t, 1, () -> t.dropStage(1));
        change("dropStage(0) of the only one", t, 0, () -> t.dropStage(0));
        Check.output("writeWay() of nothing", t, t.writeWay(), "");
        refused("dropStage(0) of nothing", t, NO_SUCH, () -> t.dropStage(0));
        MuleTrain full = Check.loaded("train 0 0 0;road 1;ford 2;camp 3;road 4;ford 5;camp 6;road 7;ford 8");
        change("dropStage(0) of eight", full, 7, () -> full.dropStage(0));
        Check.due("addStage behind it", full.addStage(2, 9), 7);
        Check.output("writeWay() behind both", full, full.writeWay(), "ford2 camp3 road4 ford5 camp6 road7 ford8 camp9");
    }

    private static void promise35Set() {
        MuleTrain t = new MuleTrain();
        change("set(0, 99)", t, 20, () -> t.set(0, 99));
        change("set(0, 0)", t, 99, () -> t.set(0, 0));
        change("set(1, 50)", t, 10, () -> t.set(1, 50));
        change("set(2, 50)", t, 3, () -> t.set(2, 50));
        change("set(2, 50) as it is", t, 50, () -> t.set(2, 50));
        Check.due("WAGE behind set", t.setting(2), 50);
        change("set(2, 0)", t, 50, () -> t.set(2, 0));
        int[][] wrong = {{-1, 0}, {3, 0}, {0, -1}, {0, 100}, {1, -1}, {1, 51}, {2, -1}, {2, 51}, {LEAST, 1}, {MOST, MOST}, {0, LEAST}, {1, MOST}};
        for (int[] each : wrong) {
            wrong("set(" + each[0] + ", " + each[1] + ")", ARGUMENT, x -> x.set(each[0], each[1]));
        }
    }

    private static void promise36Restore() {
        MuleTrain t = new MuleTrain();
        refused("restore(0) of nothing", t, STATE, () -> t.restore(0));
        wrong("restore(2)", ARGUMENT, x -> x.restore(2));
        wrong("restore(-1)", ARGUMENT, x -> x.restore(-1));
        wrong("restore(MOST)", ARGUMENT, x -> x.restore(MOST));
        t.rest(4);
        String saved = Check.all(t);
        t.save(1);
        t.trip();
        t.addSack(1, 1, 1);
        t.dropStage(0);
        t.set(2, 9);
        t.writeMule(1);
        refused("restore(0) with the other saved", t, STATE, () -> t.restore(0));
        change("restore(1)", t, 4, () -> t.restore(1));
        if (!saved.equals(Check.all(t))) {
            Check.fault("restore(1) did not bring back what was saved");
        }
        Check.output("output behind restore(1)", t, 8, "moll:|=0");
    }
}
