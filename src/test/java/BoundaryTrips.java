/** The boundaries of section 4 A TRIP. */
final class BoundaryTrips extends Boundary {
    static void run() {
        reasonNoSack();
        reasonNotLevel();
        onlyMulesThatHaveASack();
        stagesInTheirOrder();
        roadTires();
        roadTiresByLoad();
        roadTiresAtMost100();
        roadSheds();
        fordSheds();
        fordOfWhatItBears();
        fordBreaksGlass();
        fordBreaksByThis();
        fordWetsFromDepth5();
        fordWetsBehindShedding();
        fordWetsByKind();
        campEases();
        campAtLeast0();
        delivered();
        wages();
        dayOfATrip();
        restDays();
    }

    private static void reasonNoSack() {
        sentence("Section 4", "It cannot begin by the first of these reasons: 1 no mule has a sack");
        MuleTrain none = loaded(HEAD);
        due("whyNoTrip(0) without mules", none.whyNoTrip(0), 1);
        refused(STATE, "trip() without mules", none, () -> none.trip());
        MuleTrain t = loaded(HEAD + ";mule a 10;mule b 10;sack iron 1 1;sack iron 1 1");
        due("whyNoTrip(0) without a sack", t.whyNoTrip(0), 1);
        refused(STATE, "trip() without a sack", t, () -> t.trip());
        t.set(0, 1);
        t.pack(1, 1, 0);
        due("whyNoTrip(0) with one sack on the last mule", t.whyNoTrip(0), 0);
        due("trip() with one sack", t.trip(), 1);
        due("whyNoTrip(0) behind it", t.whyNoTrip(0), 1);
    }

    private static void reasonNotLevel() {
        sentence("Section 4", "2 a mule is not LEVEL.");
        MuleTrain t = loaded("train 5 0 0;mule a 20;mule b 20;sack iron 5 1;sack iron 6 1;pack 0 a left;pack 1 b right");
        due("whyNoTrip(0) with 6 and TILT 5", t.whyNoTrip(0), 2);
        refused(STATE, "trip() with 6 and TILT 5", t, () -> t.trip());
        t.set(0, 6);
        due("whyNoTrip(0) with 6 and TILT 6", t.whyNoTrip(0), 0);
        due("trip() with 6 and TILT 6", t.trip(), 2);
    }

    private static void onlyMulesThatHaveASack() {
        sentence("Section 4", "Only mules that have a sack as it begins go on it (also if they lose all sacks under way).");
        // a loses all in the ford, b keeps its sack, c has none: a road of 10 makes those that go tired by 1, as 1 * 10 / 100 = 0.
        MuleTrain t = loaded("train 99 50 7;mule a 100;mule b 100;mule c 100;sack iron 11 1;sack iron 1 1;ford 9;road 10;pack 0 a left;pack 1 b left;trip");
        due("PLACE of what a has lost", t.sack(0, 3), 3);
        due("TIRED of a, which has lost all", t.mule(0, 1), 1);
        due("TIRED of b", t.mule(1, 1), 1);
        due("TIRED of c, which stays", t.mule(2, 1), 0);
        due("wages of a and b", t.count(5), 14);
        t.addSack(2, 1, 1);
        t.pack(2, 2, 0);
        t.dropStage(0);
        t.addStage(2, 24);
        t.trip();
        due("TIRED of a, which is in no camp now", t.mule(0, 1), 1);
        due("wages of c too", t.count(5), 21);
    }

    private static void stagesInTheirOrder() {
        sentence("Section 4", "The stages are gone through in their order");
        // 50 of 100 tires by 50 * (5 + 1) / 10 = 30; the ford of 5 lets 50 of 100 through, and 35 of 70.
        String mule = "train 99 0 0;mule a 100;sack iron 50 1;pack 0 a left;";
        due("PLACE behind ford and road", loaded(mule + "ford 5;road 50;trip").sack(0, 3), 2);
        due("PLACE behind road and ford", loaded(mule + "road 50;ford 5;trip").sack(0, 3), 3);
        String eight = "road 1;road 1;road 1;road 1;road 1;road 1;road 1;";
        due("PLACE behind a ford as the 8th", loaded(mule + eight + "ford 6;trip").sack(0, 3), 3);
        due("PLACE without stages", loaded(mule + "trip").sack(0, 3), 2);
    }

    private static void roadTires() {
        sentence("Section 4", "a road: TIRED becomes miles * (LOAD * 10 / STRENGTH + 1) / 10 more");
        // The LOAD of 1 of 300 counts 0: 9 / 10 = 0, 10 / 10 = 1, 19 / 10 = 1, 20 / 10 = 2, 99 / 10 = 9.
        int[][] light = {{1, 0}, {9, 0}, {10, 1}, {19, 1}, {20, 2}, {99, 9}};
        for (int[] each : light) {
            due("TIRED behind " + each[0] + " miles", tiredByRoad(300, 1, each[0]), each[1]);
        }
        // 8 of 10 count 9, 9 of 10 count 10: one mile tires by 9 / 10 = 0 and by 10 / 10 = 1.
        due("TIRED behind 1 mile with 8 of 10", tiredByRoad(10, 8, 1), 0);
        due("TIRED behind 1 mile with 9 of 10", tiredByRoad(10, 9, 1), 1);
    }

    private static int tiredByRoad(int strength, int load, int miles) {
        return loaded("train 99 0 0;mule a " + strength + ";sack iron " + load + " 1;road " + miles + ";pack 0 a left;trip").mule(0, 1);
    }

    private static void roadTiresByLoad() {
        sentence("Section 4", "(LOAD * 10 / STRENGTH + 1)");
        // 29 * 10 / 30 = 9, 30 * 10 / 30 = 10; 3 * 10 / 31 = 0, 4 * 10 / 31 = 1.
        int[][] due = {{30, 29, 10}, {30, 30, 11}, {31, 3, 1}, {31, 4, 2}, {100, 9, 1}, {100, 10, 2}, {300, 29, 1}, {300, 30, 2}};
        for (int[] each : due) {
            due("TIRED behind 10 miles with " + each[1] + " of " + each[0], tiredByRoad(each[0], each[1], 10), each[2]);
        }
        // What is lost on a road weighs nothing on the next one: 11 of 10 miles, then 10 * (80 * 10 / 100 + 1) / 10 = 9.
        MuleTrain t = loaded("train 99 0 0;mule a 100;sack iron 80 9;sack iron 20 1;road 10;road 10;pack 0 a left;pack 1 a right;trip");
        due("TIRED behind a loss and another road", t.mule(0, 1), 20);
    }

    private static void roadTiresAtMost100() {
        sentence("Section 4", "100 at most");
        // A full mule is tired by 11 for 10 miles: 90 * 11 / 10 = 99, 91 * 11 / 10 = 100, 92 * 11 / 10 = 101.
        due("TIRED behind 90 miles", tiredByRoad(10, 10, 90), 99);
        due("TIRED behind 91 miles", tiredByRoad(10, 10, 91), 100);
        due("TIRED behind 92 miles", tiredByRoad(10, 10, 92), 100);
        due("TIRED behind 99 miles", tiredByRoad(10, 10, 99), 100);
        // Behind 99 and without sacks: 9 / 10 = 0, 10 / 10 = 1, 20 / 10 = 2 more.
        String far = "train 99 0 0;mule a 100;sack iron 90 1;pack 0 a left;road 99;road ";
        due("TIRED of 99 and 0", loaded(far + "9;trip").mule(0, 1), 99);
        due("TIRED of 99 and 1", loaded(far + "10;trip").mule(0, 1), 100);
        due("TIRED of 99 and 2", loaded(far + "20;trip").mule(0, 1), 100);
    }

    private static void roadSheds() {
        sentence("Section 4", "Then the mule sheds to what it BEARS then.");
        // 91 of 100 is tired by as many as the miles are: 91 is borne with TIRED 9, and not with TIRED 10.
        String mule = "train 99 0 0;mule a 100;sack iron 91 1;pack 0 a left;road ";
        MuleTrain kept = loaded(mule + "9;trip");
        due("BEARS behind 9 miles", kept.mule(0, 2), 91);
        due("PLACE behind 9 miles", kept.sack(0, 3), 2);
        MuleTrain lost = loaded(mule + "10;trip");
        due("BEARS behind 10 miles", lost.mule(0, 2), 90);
        due("PLACE behind 10 miles", lost.sack(0, 3), 3);
        // The fractions of what it bears are not borne: 99 * 90 / 100 = 89.1 is less than 90.
        MuleTrain part = loaded("train 99 0 0;mule a 99;sack iron 90 1;pack 0 a left;road 10;trip");
        due("TIRED with 90 of 99", part.mule(0, 1), 10);
        due("PLACE with 90 of 89", part.sack(0, 3), 3);
    }

    private static void fordSheds() {
        sentence("Section 4", "a ford: the mule sheds to what it BEARS times (10 less the depth) divided by 10.");
        for (int depth = 1; depth <= 9; depth++) {
            int limit = 10 * (10 - depth);
            String mule = "train 99 0 0;mule a 100;pack 0 a left;ford " + depth + ";trip";
            due("PLACE of " + limit + " at depth " + depth, loaded(mule.replace("pack", "sack iron " + limit + " 1;pack")).sack(0, 3), 2);
            due("PLACE of " + (limit + 1) + " at depth " + depth, loaded(mule.replace("pack", "sack iron " + (limit + 1) + " 1;pack")).sack(0, 3), 3);
        }
    }

    private static void fordOfWhatItBears() {
        sentence("Section 4", "what it BEARS times (10 less the depth) divided by 10");
        // 19 * 5 / 10 = 9; 10 * 1 / 10 = 1; 19 * 1 / 10 = 1.
        due("PLACE of 9 of 19", placeBehindFord(19, 9, 5), 2);
        due("PLACE of 10 of 19", placeBehindFord(19, 10, 5), 3);
        due("PLACE of 1 of 10", placeBehindFord(10, 1, 9), 2);
        due("PLACE of 2 of 10", placeBehindFord(10, 2, 9), 3);
        due("PLACE of 1 of 19", placeBehindFord(19, 1, 9), 2);
        due("PLACE of 2 of 19", placeBehindFord(19, 2, 9), 3);
        // What it BEARS is rounded down before: with TIRED 6, 19 * 94 / 100 = 17 and 17 * 9 / 10 = 15 (of 17.86 it would be 16).
        MuleTrain kept = loaded("train 99 0 0;mule a 19;sack iron 15 1;pack 0 a left;road 8;ford 1;trip");
        due("TIRED with 15 of 19", kept.mule(0, 1), 6);
        due("PLACE of 15 at a limit of 15", kept.sack(0, 3), 2);
        MuleTrain lost = loaded("train 99 0 0;mule a 19;sack iron 16 1;pack 0 a left;road 7;ford 1;trip");
        due("TIRED with 16 of 19", lost.mule(0, 1), 6);
        due("PLACE of 16 at a limit of 15", lost.sack(0, 3), 3);
    }

    private static int placeBehindFord(int strength, int load, int depth) {
        return loaded("train 99 0 0;mule a " + strength + ";sack iron " + load + " 1;ford " + depth + ";pack 0 a left;trip").sack(0, 3);
    }

    private static void fordBreaksGlass() {
        sentence("Section 4", "If it has lost a sack by this, all glass that is still on it breaks: WORTH is 0.");
        String mules = "train 99 0 0;mule a 100;mule b 100;sack glass 25 9;sack glass 25 8;sack iron 1 7;sack glass 1 6;pack 0 a left;pack 1 a right;pack 3 b left;";
        MuleTrain whole = loaded(mules + "ford 5;trip");
        due("WORTH of glass, as 50 of 50 lost none", whole.sack(0, 2), 9);
        due("count(4), as none was lost", whole.count(4), 0);
        MuleTrain broken = loaded(mules + "pack 2 a left;ford 5;trip");
        due("PLACE of the iron that is lost", broken.sack(2, 3), 3);
        due("WORTH of the first glass", broken.sack(0, 2), 0);
        due("WORTH of the second glass", broken.sack(1, 2), 0);
        due("PLACE of broken glass", broken.sack(0, 3), 2);
        due("WORTH of the glass of the other mule", broken.sack(3, 2), 6);
        due("count(4) of both", broken.count(4), 17);
        // Glass that is lost itself is not still on it, and other kinds do not break.
        MuleTrain lost = loaded("train 99 0 0;mule a 100;sack glass 51 3;sack iron 1 8;sack cloth 1 8;sack grain 1 8;ford 4;pack 0 a left;pack 1 a right;pack 2 a left;pack 3 a left;ford 5;trip");
        due("WORTH of lost glass", lost.sack(0, 2), 3);
        due("count(2) of lost glass", lost.count(2), 3);
        due("count(4) of lost glass", lost.count(4), 0);
        due("WORTH of iron", lost.sack(1, 2), 8);
        due("WORTH of cloth, which is wet", lost.sack(2, 2), 6);
        due("WORTH of grain, which is wet", lost.sack(3, 2), 4);
        MuleTrain shallow = loaded("train 99 0 0;mule a 100;sack glass 90 9;sack iron 1 1;ford 1;pack 0 a left;pack 1 a right;trip");
        due("WORTH of glass that broke at depth 1", shallow.sack(0, 2), 0);
    }

    private static void fordBreaksByThis() {
        sentence("Section 4", "If it has lost a sack by this");
        // 91 of 100 are tired by 10, and the iron is lost on the road; the ford takes nothing then.
        MuleTrain road = loaded("train 99 0 0;mule a 100;sack iron 81 1;sack glass 10 9;pack 0 a left;pack 1 a right;road 10;ford 1;trip");
        due("PLACE of what was lost on the road", road.sack(0, 3), 3);
        due("WORTH of glass behind a loss on the road", road.sack(1, 2), 9);
        MuleTrain first = loaded("train 99 0 0;mule a 100;mule b 100;sack iron 51 1;sack glass 50 9;pack 0 a left;pack 1 b right;ford 5;ford 4;trip");
        due("WORTH of glass on a mule that lost none, as the one ahead of it did", first.sack(1, 2), 9);
        MuleTrain second = loaded("train 99 0 0;mule a 100;mule b 100;sack glass 50 9;sack iron 51 1;pack 0 a left;pack 1 b right;ford 5;ford 4;trip");
        due("WORTH of glass on a mule that lost none, as the one behind it did", second.sack(0, 2), 9);
    }

    private static void fordWetsFromDepth5() {
        sentence("Section 4", "Then, if the depth is 5 or more, all sacks on it get wet");
        String mule = "train 99 0 0;mule a 300;mule b 300;sack grain 1 8;sack cloth 1 8;sack iron 1 8;sack glass 1 8;sack grain 1 0;sack grain 1 8;"
            + "pack 0 a left;pack 1 a right;pack 2 a right;pack 3 a left;pack 4 b left;ford ";
        for (int depth = 1; depth <= 9; depth++) {
            MuleTrain t = loaded(mule + depth + ";trip");
            due("sacks that get wet at depth " + depth, t.count(6), depth < 5 ? 0 : 5);
            due("WORTH of grain at depth " + depth, t.sack(0, 2), depth < 5 ? 8 : 4);
            due("WORTH in the store at depth " + depth, t.sack(5, 2), 8);
        }
    }

    private static void fordWetsBehindShedding() {
        sentence("Section 4", "Then, if the depth is 5 or more");
        // Dry, the grain is worth more than the iron: the iron is lost, and only then the grain becomes 5.
        MuleTrain t = loaded("train 99 0 0;mule a 100;sack grain 50 10;sack iron 1 6;ford 5;pack 0 a left;pack 1 a right;trip");
        due("PLACE of the iron", t.sack(1, 3), 3);
        due("PLACE of the grain", t.sack(0, 3), 2);
        due("WORTH of the grain", t.sack(0, 2), 5);
        due("sacks that got wet, without the lost one", t.count(6), 1);
        // Lost grain is not wet any more.
        MuleTrain lost = loaded("train 99 0 0;mule a 100;sack grain 51 10;ford 5;pack 0 a left;trip");
        due("WORTH of lost grain", lost.sack(0, 2), 10);
        due("count(3) of lost grain", lost.count(3), 0);
        due("count(6) of lost grain", lost.count(6), 0);
        // What breaks is wet too, but loses nothing more.
        MuleTrain glass = loaded("train 99 0 0;mule a 100;sack glass 50 10;sack iron 1 6;ford 5;pack 0 a left;pack 1 a right;trip");
        due("count(4) of broken glass", glass.count(4), 10);
        due("count(3) of broken glass", glass.count(3), 0);
        due("count(6) of broken glass", glass.count(6), 1);
    }

    private static void fordWetsByKind() {
        sentence("Section 4", "WORTH of grain is divided by 2, that of cloth is 3 times WORTH divided by 4, iron and glass stay as they are.");
        int[] dry = {0, 1, 2, 3, 4, 5, 999};
        int[] grain = {0, 0, 1, 1, 2, 2, 499};
        int[] cloth = {0, 0, 1, 2, 3, 3, 749};
        for (int i = 0; i < dry.length; i++) {
            String worth = " 1 " + dry[i] + ";";
            MuleTrain t = loaded("train 99 0 0;mule a 300;sack grain" + worth + "sack cloth" + worth + "sack iron" + worth + "sack glass" + worth
                + "ford 5;pack 0 a left;pack 1 a right;pack 2 a right;pack 3 a left;trip");
            due("grain of " + dry[i], t.sack(0, 2), grain[i]);
            due("cloth of " + dry[i], t.sack(1, 2), cloth[i]);
            due("iron of " + dry[i], t.sack(2, 2), dry[i]);
            due("glass of " + dry[i], t.sack(3, 2), dry[i]);
        }
    }

    private static void campEases() {
        sentence("Section 4", "a camp: TIRED becomes EASE times the hours divided by 10 less");
        // 90 of 100 are tired by as many as the miles are, 10 here; 9 / 10 = 0, 10 / 10 = 1, 19 / 10 = 1, 20 / 10 = 2.
        int[][] due = {{1, 9, 10}, {1, 10, 9}, {1, 19, 9}, {1, 20, 8}, {9, 1, 10}, {10, 1, 9}, {0, 24, 10}, {1, 24, 8}, {50, 1, 5}};
        for (int[] each : due) {
            due("TIRED behind " + each[1] + " hours with EASE " + each[0], tiredBehindCamp(10, each[0], each[1]), each[2]);
        }
    }

    private static int tiredBehindCamp(int miles, int ease, int hours) {
        return loaded("train 99 " + ease + " 0;mule a 100;sack iron 90 1;pack 0 a left;road " + miles + ";camp " + hours + ";trip").mule(0, 1);
    }

    private static void campAtLeast0() {
        sentence("Section 4", "less, 0 at least.");
        due("TIRED of 11 less 10", tiredBehindCamp(11, 10, 10), 1);
        due("TIRED of 10 less 10", tiredBehindCamp(10, 10, 10), 0);
        due("TIRED of 9 less 10", tiredBehindCamp(9, 10, 10), 0);
        due("TIRED of 99 less 120", tiredBehindCamp(99, 50, 24), 0);
        MuleTrain fresh = loaded("train 99 50 0;mule a 100;sack iron 1 1;pack 0 a left;camp 24;road 10;trip");
        due("TIRED of 0 less 120, and 1 more", fresh.mule(0, 1), 1);
    }

    private static void delivered() {
        sentence("Section 4", "At the end all sacks that are still on mules are delivered: MONEY becomes more by the WORTH of each, as it is then.");
        MuleTrain t = loaded("train 99 0 0;mule a 100;mule b 100;sack grain 1 9;sack iron 51 5;sack cloth 1 0;sack iron 1 7;ford 5;pack 0 a left;pack 1 a right;pack 2 b left");
        due("trip(), where one is lost and two are wet", t.trip(), 4);
        due("MONEY", t.value(8), 4);
        due("PLACE of a delivered one of WORTH 0", t.sack(2, 3), 2);
        due("PLACE in the store", t.sack(3, 3), 0);
        due("sacks on mules", t.value(3), 0);
        String all = ";sack iron 1 999".repeat(16);
        MuleTrain dear = loaded("train 99 0 0;mule a 300" + all);
        due("fill of 16", dear.fill(0), 16);
        due("trip() of 16 sacks of WORTH 999", dear.trip(), 15984);
        due("sacks that were delivered", dear.value(4), 16);
    }

    private static void wages() {
        sentence("Section 4", "For each mule that went, MONEY becomes WAGE less.");
        for (int mules = 1; mules <= 6; mules++) {
            StringBuilder text = new StringBuilder("train 99 0 50;mule a 10;mule b 10;mule c 10;mule d 10;mule e 10;mule f 10;ford 9");
            for (int mule = 0; mule < mules; mule++) {
                text.append(";sack iron ").append(mule + 1).append(" 0;pack ").append(mule).append(' ').append((char) ('a' + mule)).append(" left");
            }
            // All but the first lose their only sack in the ford.
            due("trip() of " + mules, loaded(text.toString()).trip(), -50 * mules);
        }
        MuleTrain free = loaded("train 99 0 0;mule a 10;sack iron 1 0;pack 0 a left");
        due("trip() with WAGE 0", free.trip(), 0);
        MuleTrain one = loaded("train 99 0 1;mule a 10;sack iron 1 0;pack 0 a left");
        due("trip() with WAGE 1", one.trip(), -1);
        // Two sacks on one mule are one wage.
        MuleTrain two = loaded("train 99 0 1;mule a 10;sack iron 1 0;sack iron 1 0;pack 0 a left;pack 1 a left");
        due("trip() with two sacks on a mule", two.trip(), -1);
    }

    private static void dayOfATrip() {
        sentence("Section 4", "DAY becomes 1 more.");
        MuleTrain t = new MuleTrain();
        t.trip();
        due("DAY behind a trip", t.value(7), 1);
        due("DAY of a sack, as the trip began", t.sack(0, 6), 0);
        MuleTrain late = onDay(9998);
        late.trip();
        due("DAY behind a trip on DAY 9998", late.value(7), 9999);
        due("DAY of a sack behind it", late.sack(0, 6), 9998);
    }

    private static void restDays() {
        sentence("Section 4", "To rest for some days: each day DAY becomes 1 more, and TIRED of each mule EASE less, 0 at least.");
        int[][] due = {{49, 2}, {50, 0}, {51, 0}, {99, 0}};
        for (int[] each : due) {
            MuleTrain t = tired(100, 2);
            due("rest(" + each[0] + ") of TIRED 100, EASE 2", t.rest(each[0]), each[1]);
            due("DAY behind it", t.value(7), 1 + each[0]);
        }
        MuleTrain hard = tired(51, 50);
        due("rest(1) of TIRED 51, EASE 50", hard.rest(1), 1);
        due("rest(1) of TIRED 1, EASE 50", hard.rest(1), 0);
        due("rest(99) of TIRED 0, EASE 50", hard.rest(99), 0);
        MuleTrain never = tired(1, 0);
        due("rest(99) with EASE 0", never.rest(99), 1);
        // Each mule rests, with a sack or without one.
        MuleTrain both = loaded("train 99 3 0;mule a 100;mule b 100;sack iron 90 1;sack iron 90 1;sack iron 1 1;road 10;pack 0 a left;pack 1 b left;trip;pack 2 b left;rest 3");
        due("TIRED of a", both.mule(0, 1), 1);
        due("TIRED of b, which has a sack", both.mule(1, 1), 1);
    }
}
