/** The boundaries of the promises 26 to 36: changes. */
final class BoundaryChanges extends Boundary {
    private static final String FULL = TILTED + ";mule a 300" + ";sack iron 1 1".repeat(16) + ";road 1".repeat(8);

    static void run() {
        promise26Load();
        promise26NoSuch();
        promise26Side();
        promise26CannotBePacked();
        promise26Order();
        promise27Load();
        promise27NoSuch();
        promise27OnNoMule();
        promise28AsLongAs();
        promise28LighterSide();
        promise28HowMany();
        promise28NoSuch();
        promise29OtherSide();
        promise29NoSuch();
        promise29OnNoMule();
        promise30Money();
        promise30CannotBegin();
        promise30Days();
        promise31Tired();
        promise31Range();
        promise31Days();
        promise31Order();
        promise32Number();
        promise32Range();
        promise32Full();
        promise32Order();
        promise33Number();
        promise33Range();
        promise33Full();
        promise33Order();
        promise34Numbers();
        promise34Left();
        promise34NoSuch();
        promise35Before();
        promise35Range();
        promise36LatestSave();
        promise36StaysSaved();
        promise36Day();
        promise36Range();
        promise36NoSave();
        promise36Order();
    }

    private static void promise26Load() {
        sentence("Promise 26", "Returns LOAD then.");
        MuleTrain t = loaded("train 0 0 0;mule a 10;mule b 300;sack iron 1 1;sack iron 9 1;sack iron 99 1;sack iron 99 1;sack iron 99 1;sack iron 3 1");
        due("pack of 1", t.pack(0, 0, 0), 1);
        due("pack of all that it bears", t.pack(1, 0, 1), 10);
        due("pack of 99 on the last mule", t.pack(2, 1, 0), 99);
        t.pack(3, 1, 1);
        t.pack(4, 1, 0);
        due("pack of the last sack", t.pack(5, 1, 1), 300);
        due("left side", t.mule(1, 4), 198);
        due("right side", t.mule(1, 5), 102);
    }

    private static void promise26NoSuch() {
        sentence("Promise 26", "Throws `NoSuchElementException` if there is no such mule or sack");
        for (int sack : new int[] {-1, 5, 16, LEAST, MOST}) {
            MuleTrain t = new MuleTrain();
            refused(NO_SUCH, "pack(" + sack + ", 0, 0)", t, () -> t.pack(sack, 0, 0));
        }
        for (int mule : new int[] {-1, 2, 6, LEAST, MOST}) {
            MuleTrain t = new MuleTrain();
            refused(NO_SUCH, "pack(2, " + mule + ", 0)", t, () -> t.pack(2, mule, 0));
        }
        MuleTrain noMule = loaded(HEAD + ";sack iron 1 1");
        refused(NO_SUCH, "pack(0, 0, 0) without mules", noMule, () -> noMule.pack(0, 0, 0));
        MuleTrain noSack = loaded(HEAD + ";mule a 10");
        refused(NO_SUCH, "pack(0, 0, 0) without sacks", noSack, () -> noSack.pack(0, 0, 0));
    }

    private static void promise26Side() {
        sentence("Promise 26", "Throws `IllegalArgumentException` if side is out of range");
        for (int side : new int[] {-1, 2, LEAST, MOST}) {
            MuleTrain t = new MuleTrain();
            refused(ARGUMENT, "pack(2, 0, " + side + ")", t, () -> t.pack(2, 0, side));
        }
        MuleTrain t = new MuleTrain();
        due("pack(2, 0, 0)", t.pack(2, 0, 0), 90);
        due("side 0", t.sack(2, 5), 0);
        t.undo();
        due("pack(2, 0, 1)", t.pack(2, 0, 1), 90);
        due("side 1", t.sack(2, 5), 1);
    }

    private static void promise26CannotBePacked() {
        sentence("Promise 26", "Throws `IllegalStateException` if it cannot be packed");
        // Jen bears 100 and has 40: 60 can be packed, and 61 cannot.
        MuleTrain t = new MuleTrain();
        t.addSack(0, 60, 1);
        t.addSack(0, 61, 1);
        refused(STATE, "pack of 61", t, () -> t.pack(6, 0, 0));
        due("pack of 60", t.pack(5, 0, 0), 100);
        MuleTrain on = new MuleTrain();
        refused(STATE, "pack of one that is there", on, () -> on.pack(0, 0, 0));
        MuleTrain other = new MuleTrain();
        refused(STATE, "pack of one that is on the other mule", other, () -> other.pack(1, 0, 0));
        MuleTrain gone = loaded("train 99 0 0;mule a 100;sack iron 90 1;sack iron 10 2;ford 9;pack 0 a left;pack 1 a right;trip");
        refused(STATE, "pack of a lost one", gone, () -> gone.pack(0, 0, 0));
        refused(STATE, "pack of a delivered one", gone, () -> gone.pack(1, 0, 0));
    }

    private static void promise26Order() {
        sentence("Section 6", "If several exceptions apply to a call, the one that is listed first in its description is thrown.");
        MuleTrain t = new MuleTrain();
        thrown(NO_SUCH, "pack(-1, 0, 2)", () -> t.pack(-1, 0, 2));
        thrown(NO_SUCH, "pack(0, 2, -1)", () -> t.pack(0, 2, -1));
        thrown(NO_SUCH, "pack(5, 2, 2)", () -> t.pack(5, 2, 2));
        thrown(ARGUMENT, "pack(0, 0, 2)", () -> t.pack(0, 0, 2));
        thrown(STATE, "pack(0, 0, 1)", () -> t.pack(0, 0, 1));
    }

    private static void promise27Load() {
        sentence("Promise 27", "Returns LOAD of the mule then.");
        MuleTrain t = loaded("train 0 0 0;mule a 300;mule b 300;sack iron 99 1;sack iron 1 1;sack iron 7 1;pack 0 a left;pack 1 a right;pack 2 b left");
        due("unpack(0)", t.unpack(0), 1);
        due("unpack(1) of the last", t.unpack(1), 0);
        due("unpack(2) of the only one", t.unpack(2), 0);
        due("sacks in the store", t.value(2), 3);
        due("PLACE", t.sack(2, 3), 0);
    }

    private static void promise27NoSuch() {
        sentence("Promise 27", "Throws `NoSuchElementException` if there is no such sack");
        for (int sack : new int[] {-1, 5, 16, LEAST, MOST}) {
            MuleTrain t = new MuleTrain();
            refused(NO_SUCH, "unpack(" + sack + ")", t, () -> t.unpack(sack));
        }
        MuleTrain none = loaded(HEAD + ";mule a 10");
        refused(NO_SUCH, "unpack(0) of none", none, () -> none.unpack(0));
    }

    private static void promise27OnNoMule() {
        sentence("Promise 27", "Throws `IllegalStateException` if it is on no mule");
        onNoMule("unpack", (t, sack) -> t.unpack(sack));
    }

    private interface OfSack {
        double answer(MuleTrain train, int sack);
    }

    /** One sack is lost, one delivered, one in the store and one behind unpack(). */
    private static void onNoMule(String name, OfSack change) {
        String[] names = {"a lost one", "a delivered one", "one in the store", "one that was unpacked"};
        for (int sack = 0; sack < names.length; sack++) {
            int each = sack;
            MuleTrain t = loaded("train 99 0 0;mule a 100;sack iron 90 1;sack iron 10 2;sack iron 1 1;sack iron 1 1;ford 9;pack 0 a left;pack 1 a right;trip;pack 3 a left");
            t.unpack(3);
            refused(STATE, name + " of " + names[sack], t, () -> change.answer(t, each));
        }
    }

    private static void promise28AsLongAs() {
        sentence("Promise 28", "Fills a mule: as long as there is a best sack (bestSack())");
        MuleTrain t = loaded("train 0 0 0;mule a 10;mule b 10;sack iron 9 9;sack iron 2 1;sack iron 1 0;sack iron 1 0");
        due("fill(0) to the last place", t.fill(0), 2);
        due("LOAD behind it", t.mule(0, 3), 10);
        due("the first of WORTH 0", t.sack(2, 3), 1);
        due("the second of WORTH 0", t.sack(3, 3), 0);
        due("bestSack(0) behind it", t.bestSack(0), MuleTrain.NONE);
        due("fill(1) to the last sack", t.fill(1), 2);
        due("sacks in the store", t.value(2), 0);
        MuleTrain near = loaded("train 0 0 0;mule a 10;sack iron 9 9;sack iron 2 1");
        due("fill(0) with a place of 1 left", near.fill(0), 1);
    }

    private static void promise28LighterSide() {
        sentence("Promise 28", "it is packed on the lighter side");
        // By WORTH for WEIGHT they come as 0 (3), 1 (2), 2 (1), 3 (5): left 3; right 2; right 3; left, as both are alike.
        MuleTrain t = loaded("train 0 0 0;mule a 20;sack iron 3 90;sack iron 2 40;sack iron 1 10;sack iron 5 5");
        due("fill(0)", t.fill(0), 4);
        int[] sides = {0, 1, 1, 0};
        for (int sack = 0; sack < 4; sack++) {
            due("side of " + sack, t.sack(sack, 5), sides[sack]);
        }
        // What is on it already counts.
        MuleTrain u = loaded("train 0 0 0;mule a 20;sack iron 5 1;sack iron 1 9;sack iron 3 3;pack 0 a left");
        due("fill(0) of what has a sack", u.fill(0), 2);
        due("side of 1", u.sack(1, 5), 1);
        due("side of 2", u.sack(2, 5), 1);
    }

    private static void promise28HowMany() {
        sentence("Promise 28", "Returns how many sacks were packed.");
        MuleTrain none = loaded(HEAD + ";mule a 10");
        isChange("fill(0) without sacks", none, 0, t -> t.fill(0));
        MuleTrain full = loaded("train 0 0 0;mule a 10;sack iron 10 1;sack iron 1 1;pack 0 a left");
        isChange("fill(0) of a full mule", full, 0, t -> t.fill(0));
        MuleTrain tired = tired(100, 0);
        tired.addSack(0, 1, 9);
        isChange("fill(0) of a mule that bears 0", tired, 0, t -> t.fill(0));
        MuleTrain one = loaded("train 0 0 0;mule a 10;sack iron 10 1;sack iron 11 9");
        isChange("fill(0) of one", one, 1, t -> t.fill(0));
        due("fill(0) of 16", loaded(FULL).fill(0), 16);
    }

    private static void promise28NoSuch() {
        sentence("Promise 28", "Throws `NoSuchElementException` if there is no such mule");
        for (int mule : new int[] {-1, 2, 6, LEAST, MOST}) {
            MuleTrain t = new MuleTrain();
            refused(NO_SUCH, "fill(" + mule + ")", t, () -> t.fill(mule));
        }
        MuleTrain none = loaded(HEAD + ";sack iron 1 1");
        refused(NO_SUCH, "fill(0) of none", none, () -> none.fill(0));
    }

    private static void promise29OtherSide() {
        sentence("Promise 29", "Returns the difference of the WEIGHTs of both sides of the mule then.");
        MuleTrain t = loaded("train 0 0 0;mule a 10;mule b 300;sack iron 1 1;sack iron 9 1;sack iron 10 1;pack 0 b left;pack 1 b left;pack 2 b right");
        due("shift(0), from 10 and 10 to 9 and 11", t.shift(0), 2);
        due("side of 0", t.sack(0, 5), 1);
        due("shift(1), from 9 and 11 to 0 and 20", t.shift(1), 20);
        due("shift(2), from 0 and 20 to 10 and 10", t.shift(2), 0);
        due("shift(0), from 10 and 10 to 11 and 9", t.shift(0), 2);
        due("side of 0 again", t.sack(0, 5), 0);
        due("LOAD", t.mule(1, 3), 20);
    }

    private static void promise29NoSuch() {
        sentence("Promise 29", "Throws `NoSuchElementException` if there is no such sack");
        for (int sack : new int[] {-1, 5, 16, LEAST, MOST}) {
            MuleTrain t = new MuleTrain();
            refused(NO_SUCH, "shift(" + sack + ")", t, () -> t.shift(sack));
        }
        MuleTrain none = loaded(HEAD + ";mule a 10");
        refused(NO_SUCH, "shift(0) of none", none, () -> none.shift(0));
    }

    private static void promise29OnNoMule() {
        sentence("Promise 29", "Throws `IllegalStateException` if it is on no mule");
        onNoMule("shift", (t, sack) -> t.shift(sack));
    }

    private static void promise30Money() {
        sentence("Promise 30", "@return how much MONEY became more (below 0 if less)");
        int[] due = {1, 0, -1};
        for (int wage = 0; wage <= 2; wage++) {
            MuleTrain t = loaded("train 99 0 " + wage + ";mule a 10;sack iron 1 1;sack iron 1 1;pack 0 a left");
            due("trip() of 1 less " + wage, t.trip(), due[wage]);
            t.pack(1, 0, 0);
            due("the next trip() of 1 less " + wage, t.trip(), due[wage]);
            due("MONEY of both", t.value(8), 2 * due[wage]);
        }
    }

    private static void promise30CannotBegin() {
        sentence("Promise 30", "@throws IllegalStateException if it cannot begin");
        MuleTrain t = new MuleTrain();
        t.set(0, 19);
        refused(STATE, "trip() of mules that are not LEVEL by 1", t, () -> t.trip());
        t.set(0, 20);
        due("trip() of mules that are LEVEL", t.trip(), 149);
        MuleTrain empty = loaded(HEAD + ";mule a 10;sack iron 1 1");
        refused(STATE, "trip() without a sack on a mule", empty, () -> empty.trip());
        MuleTrain none = loaded(HEAD);
        refused(STATE, "trip() without mules", none, () -> none.trip());
    }

    private static void promise30Days() {
        sentence("Promise 30", "or DAY would be above 9999");
        MuleTrain last = onDay(9998);
        due("trip() on DAY 9998", last.trip(), 149);
        due("DAY", last.value(7), 9999);
        MuleTrain late = onDay(9999);
        refused(STATE, "trip() on DAY 9999", late, () -> late.trip());
        due("whyNoTrip(0) on DAY 9999", late.whyNoTrip(0), 0);
    }

    private static void promise31Tired() {
        sentence("Promise 31", "Returns TIRED of all mules together then.");
        due("rest(1) without mules", loaded("train 0 50 0").rest(1), 0);
        // Each of two mules is tired by 9 with 90 of 100, the third one stays at 0.
        MuleTrain t = loaded("train 99 5 0;mule a 100;mule b 100;mule c 100;sack iron 90 1;sack iron 90 1;road 9;pack 0 a left;pack 1 b left;trip");
        due("rest(1)", t.rest(1), 8);
        due("rest(1) again", t.rest(1), 0);
        due("rest(99)", t.rest(99), 0);
        due("DAY", t.value(7), 102);
        MuleTrain six = loaded("train 99 0 0;mule a 10;mule b 10;mule c 10;mule d 10;mule e 10;mule f 10;road 99" + ";sack iron 10 1".repeat(6)
            + ";pack 0 a left;pack 1 b left;pack 2 c left;pack 3 d left;pack 4 e left;pack 5 f left;trip");
        due("rest(1) of six with TIRED 100, EASE 0", six.rest(1), 600);
    }

    private static void promise31Range() {
        sentence("Promise 31", "Throws `IllegalArgumentException` if days is out of range");
        for (int days : new int[] {0, 100, -1, LEAST, MOST}) {
            MuleTrain t = new MuleTrain();
            refused(ARGUMENT, "rest(" + days + ")", t, () -> t.rest(days));
        }
        MuleTrain t = new MuleTrain();
        t.rest(1);
        due("DAY behind rest(1)", t.value(7), 1);
        t.rest(99);
        due("DAY behind rest(99)", t.value(7), 100);
    }

    private static void promise31Days() {
        sentence("Promise 31", "Throws `IllegalStateException` if DAY would be above 9999");
        int[][] days = {{9900, 99}, {9998, 1}, {9950, 49}};
        for (int[] each : days) {
            MuleTrain t = onDay(each[0]);
            if (each[1] < 99) {
                refused(STATE, "rest(" + (each[1] + 1) + ") on DAY " + each[0], t, () -> t.rest(each[1] + 1));
            }
            due("rest(" + each[1] + ") on DAY " + each[0], t.rest(each[1]), 0);
            due("DAY behind it", t.value(7), 9999);
        }
        MuleTrain last = onDay(9901);
        refused(STATE, "rest(99) on DAY 9901", last, () -> last.rest(99));
        MuleTrain late = onDay(9999);
        refused(STATE, "rest(1) on DAY 9999", late, () -> late.rest(1));
    }

    private static void promise31Order() {
        sentence("Section 6", "the one that is listed first in its description is thrown");
        MuleTrain late = onDay(9999);
        thrown(ARGUMENT, "rest(0) on DAY 9999", () -> late.rest(0));
        thrown(ARGUMENT, "rest(100) on DAY 9999", () -> late.rest(100));
        thrown(ARGUMENT, "rest(MOST) on DAY 9999", () -> late.rest(MOST));
        thrown(STATE, "rest(99) on DAY 9999", () -> late.rest(99));
    }

    private static void promise32Number() {
        sentence("Promise 32", "Returns its number.");
        MuleTrain t = loaded(HEAD);
        for (int sack = 0; sack < 16; sack++) {
            due("addSack", t.addSack(sack % 4, 99 - sack, 999 - sack), sack);
        }
        int[] first = {0, 99, 999, 0, -1, -1, -1, 999};
        int[] last = {3, 84, 984, 0, -1, -1, -1, 984};
        for (int what = 0; what <= 7; what++) {
            due("sack(0, " + what + ")", t.sack(0, what), first[what]);
            due("sack(15, " + what + ")", t.sack(15, what), last[what]);
        }
    }

    private static void promise32Range() {
        sentence("Promise 32", "Throws `IllegalArgumentException` if one of them is out of range");
        int[][] wrong = {{-1, 1, 1}, {4, 1, 1}, {LEAST, 1, 1}, {MOST, 1, 1}, {0, 0, 1}, {0, 100, 1}, {0, LEAST, 1}, {0, MOST, 1}, {0, 1, -1}, {0, 1, 1000}, {0, 1, LEAST}, {0, 1, MOST}};
        for (int[] each : wrong) {
            MuleTrain t = new MuleTrain();
            refused(ARGUMENT, "addSack(" + each[0] + ", " + each[1] + ", " + each[2] + ")", t, () -> t.addSack(each[0], each[1], each[2]));
        }
        MuleTrain t = new MuleTrain();
        due("addSack(0, 1, 0)", t.addSack(0, 1, 0), 5);
        due("addSack(3, 99, 999)", t.addSack(3, 99, 999), 6);
    }

    private static void promise32Full() {
        sentence("Promise 32", "Throws `IllegalStateException` if there are 16 sacks");
        MuleTrain fifteen = loaded(HEAD + ";sack iron 1 1".repeat(15));
        due("addSack of the 16th", fifteen.addSack(0, 1, 1), 15);
        refused(STATE, "addSack of the 17th", fifteen, () -> fifteen.addSack(0, 1, 1));
        // Also delivered sacks are sacks.
        MuleTrain gone = loaded(FULL);
        gone.fill(0);
        gone.trip();
        due("sacks that were delivered", gone.value(4), 16);
        thrown(STATE, "addSack where all were delivered", () -> gone.addSack(0, 1, 1));
    }

    private static void promise32Order() {
        sentence("Section 6", "the one that is listed first in its description is thrown");
        MuleTrain full = loaded(FULL);
        thrown(ARGUMENT, "addSack(4, 1, 1) of a 17th", () -> full.addSack(4, 1, 1));
        thrown(ARGUMENT, "addSack(0, 100, 1) of a 17th", () -> full.addSack(0, 100, 1));
        thrown(ARGUMENT, "addSack(0, 1, 1000) of a 17th", () -> full.addSack(0, 1, 1000));
        thrown(STATE, "addSack(3, 99, 999) of a 17th", () -> full.addSack(3, 99, 999));
    }

    private static void promise33Number() {
        sentence("Promise 33", "Returns its number.");
        MuleTrain t = loaded(HEAD);
        int[][] way = {{0, 1}, {1, 1}, {2, 1}, {0, 99}, {1, 9}, {2, 24}, {0, 50}, {1, 5}};
        for (int stage = 0; stage < way.length; stage++) {
            due("addStage", t.addStage(way[stage][0], way[stage][1]), stage);
        }
        for (int stage = 0; stage < way.length; stage++) {
            due("kind of " + stage, t.stage(stage, 0), way[stage][0]);
            due("number of " + stage, t.stage(stage, 1), way[stage][1]);
        }
        t.dropStage(0);
        due("addStage behind dropStage", t.addStage(2, 7), 7);
    }

    private static void promise33Range() {
        sentence("Promise 33", "Throws `IllegalArgumentException` if kind or number is out of range");
        int[][] wrong = {{-1, 1}, {3, 1}, {LEAST, 1}, {MOST, 1}, {0, 0}, {0, 100}, {1, 0}, {1, 10}, {2, 0}, {2, 25}, {0, LEAST}, {1, LEAST}, {2, LEAST}, {0, MOST}, {1, MOST}, {2, MOST}, {0, -1}, {1, -1}, {2, -1}};
        for (int[] each : wrong) {
            MuleTrain t = new MuleTrain();
            refused(ARGUMENT, "addStage(" + each[0] + ", " + each[1] + ")", t, () -> t.addStage(each[0], each[1]));
        }
    }

    private static void promise33Full() {
        sentence("Promise 33", "Throws `IllegalStateException` if there are 8 stages");
        MuleTrain seven = loaded(HEAD + ";road 1".repeat(7));
        due("addStage of the 8th", seven.addStage(2, 24), 7);
        refused(STATE, "addStage of the 9th", seven, () -> seven.addStage(0, 1));
        due("dropStage(7)", seven.dropStage(7), 7);
        due("addStage where one was dropped", seven.addStage(0, 1), 7);
    }

    private static void promise33Order() {
        sentence("Section 6", "the one that is listed first in its description is thrown");
        MuleTrain full = loaded(FULL);
        thrown(ARGUMENT, "addStage(3, 1) of a 9th", () -> full.addStage(3, 1));
        thrown(ARGUMENT, "addStage(0, 100) of a 9th", () -> full.addStage(0, 100));
        thrown(STATE, "addStage(0, 99) of a 9th", () -> full.addStage(0, 99));
    }

    private static void promise34Numbers() {
        sentence("Promise 34", "Takes a stage out of the way; those behind it have numbers that are 1 less.");
        String way = HEAD + ";road 1;ford 2;camp 3;road 4;ford 5;camp 6;road 7;ford 8";
        for (int dropped = 0; dropped < 8; dropped++) {
            MuleTrain t = loaded(way);
            due("dropStage(" + dropped + ")", t.dropStage(dropped), 7);
            for (int stage = 0; stage < 7; stage++) {
                int before = stage < dropped ? stage : stage + 1;
                due("kind of " + stage, t.stage(stage, 0), before % 3);
                due("number of " + stage, t.stage(stage, 1), before + 1);
            }
            thrown(NO_SUCH, "stage(7, 0)", () -> t.stage(7, 0));
        }
    }

    private static void promise34Left() {
        sentence("Promise 34", "Returns stages that are left.");
        MuleTrain t = loaded(HEAD + ";road 1;ford 2");
        due("dropStage(1) of two", t.dropStage(1), 1);
        due("dropStage(0) of one", t.dropStage(0), 0);
        due("stages", t.value(6), 0);
        due("addStage of the first", t.addStage(2, 3), 0);
    }

    private static void promise34NoSuch() {
        sentence("Promise 34", "Throws `NoSuchElementException` if there is no such stage");
        for (int stage : new int[] {-1, 3, 8, LEAST, MOST}) {
            MuleTrain t = new MuleTrain();
            refused(NO_SUCH, "dropStage(" + stage + ")", t, () -> t.dropStage(stage));
        }
        MuleTrain full = loaded(FULL);
        refused(NO_SUCH, "dropStage(8) of eight", full, () -> full.dropStage(8));
        MuleTrain none = loaded(HEAD);
        refused(NO_SUCH, "dropStage(0) of none", none, () -> none.dropStage(0));
    }

    private static void promise35Before() {
        sentence("Promise 35", "Returns the setting before.");
        int[] most = {99, 50, 50};
        for (int which = 0; which <= 2; which++) {
            MuleTrain t = loaded("train 7 8 9");
            due("set to 0", t.set(which, 0), 7 + which);
            due("set to the most", t.set(which, most[which]), 0);
            due("set to the most again", t.set(which, most[which]), most[which]);
            due("setting", t.setting(which), most[which]);
            due("another setting", t.setting((which + 1) % 3), 7 + (which + 1) % 3);
        }
    }

    private static void promise35Range() {
        sentence("Promise 35", "Throws `IllegalArgumentException` if which or value is out of range");
        int[][] wrong = {{-1, 0}, {3, 0}, {LEAST, 0}, {MOST, 0}, {0, -1}, {0, 100}, {1, -1}, {1, 51}, {2, -1}, {2, 51}, {0, LEAST}, {1, LEAST}, {2, LEAST}, {0, MOST}, {1, MOST}, {2, MOST}};
        for (int[] each : wrong) {
            MuleTrain t = new MuleTrain();
            refused(ARGUMENT, "set(" + each[0] + ", " + each[1] + ")", t, () -> t.set(each[0], each[1]));
        }
    }

    private static void promise36LatestSave() {
        sentence("Promise 36", "Makes everything that undo() brings back what it was at the latest save() with this slot.");
        for (int slot = 0; slot <= 1; slot++) {
            MuleTrain t = new MuleTrain();
            t.save(slot);
            t.rest(1);
            String saved = Check.all(t);
            t.save(slot);
            t.rest(2);
            t.save(1 - slot);
            t.trip();
            t.addSack(1, 2, 3);
            t.dropStage(2);
            t.set(0, 5);
            due("restore(" + slot + ")", t.restore(slot), 1);
            same("restore(" + slot + ")", saved, t);
            due("restore of the other", t.restore(1 - slot), 3);
        }
    }

    private static void promise36StaysSaved() {
        sentence("Promise 36", "It stays saved.");
        MuleTrain t = new MuleTrain();
        t.rest(4);
        t.save(1);
        for (int times = 0; times < 3; times++) {
            t.rest(3);
            due("restore(1)", t.restore(1), 4);
        }
        due("save(0)", t.save(0), 2);
        thrown(STATE, "load of an error", () -> Check.load(t, "a"));
        due("restore(1) behind an error", t.restore(1), 4);
        // What is changed behind restore() is not changed in the slot.
        t.trip();
        due("restore(1) behind a trip", t.restore(1), 4);
        due("PLACE of a sack behind it", t.sack(0, 3), 1);
    }

    private static void promise36Day() {
        sentence("Promise 36", "Returns DAY then.");
        MuleTrain t = new MuleTrain();
        t.save(0);
        t.rest(99);
        due("restore(0) of DAY 0", t.restore(0), 0);
        MuleTrain late = onDay(9999);
        late.save(1);
        late.undo();
        due("restore(1) of DAY 9999", late.restore(1), 9999);
    }

    private static void promise36Range() {
        sentence("Promise 36", "Throws `IllegalArgumentException` if slot is out of range");
        for (int slot : new int[] {-1, 2, LEAST, MOST}) {
            MuleTrain t = new MuleTrain();
            t.save(0);
            t.save(1);
            refused(ARGUMENT, "restore(" + slot + ")", t, () -> t.restore(slot));
        }
        MuleTrain t = new MuleTrain();
        t.save(0);
        t.save(1);
        due("restore(0)", t.restore(0), 0);
        due("restore(1)", t.restore(1), 0);
    }

    private static void promise36NoSave() {
        sentence("Promise 36", "Throws `IllegalStateException` if there was no such save() since the latest load() that replaced everything");
        for (int slot = 0; slot <= 1; slot++) {
            int each = slot;
            MuleTrain t = new MuleTrain();
            refused(STATE, "restore(" + slot + ") at first", t, () -> t.restore(each));
            t.save(1 - slot);
            thrown(STATE, "restore(" + slot + ") where the other is saved", () -> t.restore(each));
            t.save(slot);
            due("restore(" + slot + ")", t.restore(slot), 0);
            Check.load(t, HEAD);
            thrown(STATE, "restore(" + slot + ") behind a load", () -> t.restore(each));
            thrown(STATE, "restore of the other behind a load", () -> t.restore(1 - each));
        }
    }

    private static void promise36Order() {
        sentence("Section 6", "the one that is listed first in its description is thrown");
        MuleTrain t = new MuleTrain();
        thrown(ARGUMENT, "restore(2) where nothing is saved", () -> t.restore(2));
        thrown(ARGUMENT, "restore(-1) where nothing is saved", () -> t.restore(-1));
    }
}
