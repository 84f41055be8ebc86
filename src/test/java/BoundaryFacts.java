/** The boundaries of the promises 6 to 15: what there is, and reasons. */
final class BoundaryFacts extends Boundary {
    private static final String SIX_MULES = ";mule a 10;mule b 10;mule c 10;mule d 10;mule e 10;mule f 300";
    private static final String FULL = TILTED + SIX_MULES + ";sack iron 1 1".repeat(16) + ";road 99".repeat(8);

    static void run() {
        promise6What();
        promise6Quantities();
        promise6Places();
        promise6Miles();
        promise6Changes();
        promise7Which();
        promise8What();
        promise8Trips();
        promise8AsItWasThen();
        promise8WettingAndGlass();
        promise8Wet();
        promise8Wages();
        promise8SinceTheLatestLoad();
        promise9Mule();
        promise9What();
        promise9Numbers();
        promise10Letters();
        promise10Mule();
        promise11Sack();
        promise11What();
        promise11NoneIfNone();
        promise11Day();
        promise11AsItWasTold();
        promise12Stage();
        promise12What();
        promise13Gap();
        promise13WorthAndMoney();
        promise14NotInTheStore();
        promise14TooHeavy();
        promise14First();
        promise14NoSuch();
        promise15Depth();
        promise15Reason();
        promise15Cause();
    }

    private static void promise6What() {
        sentence("Promise 6", "Throws `IllegalArgumentException` if what is out of range");
        MuleTrain t = new MuleTrain();
        range(ARGUMENT, "value", 0, 10, what -> t.value(what));
    }

    private static void promise6Quantities() {
        sentence("Promise 6", "0 mules, 1 sacks");
        MuleTrain none = loaded(HEAD);
        MuleTrain full = loaded(FULL);
        int[] due = {6, 16, 16, 0, 0, 0, 8};
        for (int what = 0; what < due.length; what++) {
            due("value(" + what + ") of nothing", none.value(what), 0);
            due("value(" + what + ") of all that there can be", full.value(what), due[what]);
        }
    }

    private static void promise6Places() {
        sentence("Promise 6", "2 to 5 those of the PLACEs 0 to 3");
        // One stays in the store, two are on b, four were delivered and three lost.
        MuleTrain t = loaded("train 99 0 0;mule a 40;mule b 20;" + "sack iron 1 9;".repeat(6) + "sack iron 1 1;".repeat(4) + "ford 9;"
            + "pack 3 a left;pack 4 a left;pack 5 a left;pack 6 a left;pack 7 a left;pack 8 a left;pack 9 a left");
        due("value(3) before the trip", t.value(3), 7);
        t.trip();
        t.pack(1, 1, 0);
        t.pack(2, 1, 1);
        // The ford of 9 lets 4 of 40 through: of 7, the three of WORTH 1 with the smallest numbers are lost.
        int[] due = {1, 2, 4, 3};
        for (int place = 0; place <= 3; place++) {
            due("sacks of PLACE " + place, t.value(2 + place), due[place]);
        }
    }

    private static void promise6Miles() {
        sentence("Promise 6", "9 miles of all roads together");
        due("miles without stages", loaded(HEAD).value(9), 0);
        due("miles of fords and camps", loaded(HEAD + ";ford 9;camp 24").value(9), 0);
        due("miles of one", loaded(HEAD + ";ford 9;road 1;camp 24").value(9), 1);
        due("miles of two", loaded(HEAD + ";road 1;ford 9;road 99").value(9), 100);
        due("miles of eight", loaded(FULL).value(9), 792);
    }

    private static void promise6Changes() {
        sentence("Promise 6", "10 changes that can be undone");
        MuleTrain t = new MuleTrain();
        for (int changes = 0; changes <= 12; changes++) {
            due("changes", t.value(10), Math.min(changes, 10));
            t.set(0, changes);
        }
        t.undo();
        due("changes behind undo()", t.value(10), 9);
    }

    private static void promise7Which() {
        sentence("Promise 7", "Throws `IllegalArgumentException` if which is out of range");
        MuleTrain t = loaded("train 1 2 3");
        range(ARGUMENT, "setting", 0, 2, which -> t.setting(which));
        due("setting(0)", t.setting(0), 1);
        due("setting(2)", t.setting(2), 3);
    }

    private static void promise8What() {
        sentence("Promise 8", "Throws `IllegalArgumentException` if what is out of range");
        MuleTrain t = new MuleTrain();
        range(ARGUMENT, "count", 0, 6, what -> t.count(what));
        for (int what = 0; what <= 6; what++) {
            due("count(" + what + ") at first", t.count(what), 0);
        }
    }

    private static void promise8Trips() {
        sentence("Promise 8", "0 trips");
        MuleTrain t = new MuleTrain();
        t.rest(1);
        due("trips behind a rest", t.count(0), 0);
        t.trip();
        due("trips behind a trip", t.count(0), 1);
        thrown(STATE, "trip() without sacks", () -> t.trip());
        due("trips behind a trip that could not begin", t.count(0), 1);
        t.tripBrings();
        t.fate(0);
        t.tiredBy(0);
        due("trips behind questions", t.count(0), 1);
    }

    private static void promise8AsItWasThen() {
        sentence("Promise 8", "1 WORTH of sacks that were delivered, as it was then, together, 2 WORTH of sacks that were lost, as it was then, together");
        // The ford of 5 wets both: 9 become 4, 7 become 5; the ford of 9 takes the grain.
        MuleTrain t = loaded("train 99 0 0;mule a 100;sack grain 9 9;sack cloth 9 7;ford 5;ford 9;pack 0 a left;pack 1 a right;trip");
        due("WORTH that was lost", t.count(2), 4);
        // The ford of 9 wets the cloth again: 3.
        due("WORTH that was delivered", t.count(1), 3);
        due("WORTH that was lost by wetting", t.count(3), 5 + 2 + 2);
        MuleTrain none = loaded("train 99 0 0;mule a 100;sack grain 9 0;sack cloth 9 0;ford 9;pack 0 a left;pack 1 a right;trip");
        due("lost WORTH of 0", none.count(2), 0);
        due("delivered WORTH of 0", none.count(1), 0);
        due("sacks that were lost", none.value(5), 1);
    }

    private static void promise8WettingAndGlass() {
        sentence("Promise 8", "3 WORTH that was lost by wetting, together, 4 WORTH of glass that broke, together");
        // The iron is lost in the first ford: both glasses break; 1 grain and 1 cloth of WORTH 1 become 0, and are wet twice.
        MuleTrain t = loaded("train 99 0 0;mule a 10;sack iron 6 0;sack glass 1 1;sack glass 1 999;sack grain 1 1;sack cloth 1 1;sack grain 10 9;ford 5;ford 5;"
            + "pack 0 a left;pack 1 a left;pack 2 a left;pack 3 a left;pack 4 a left;trip");
        due("WORTH lost by wetting", t.count(3), 2);
        due("WORTH of glass that broke", t.count(4), 1000);
        due("WORTH that was delivered", t.count(1), 0);
        due("sacks that were delivered", t.value(4), 4);
        t.addSack(3, 1, 7);
        t.pack(5, 0, 0);
        t.trip();
        due("WORTH lost by wetting, as what is lost is not wet", t.count(3), 2);
        due("WORTH of glass in the store", t.sack(6, 2), 7);
        due("WORTH of glass that broke before", t.count(4), 1000);
    }

    private static void promise8Wet() {
        sentence("Promise 8", "6 sacks that got wet (each time, also iron and glass, and those of WORTH 0)");
        String sacks = "sack grain 1 0;sack cloth 1 0;sack iron 1 5;sack glass 1 5;pack 0 a left;pack 1 a left;pack 2 a right;pack 3 a right;";
        due("behind one ford", loaded("train 99 0 0;mule a 100;" + sacks + "ford 5;trip").count(6), 4);
        due("behind two fords", loaded("train 99 0 0;mule a 100;" + sacks + "ford 5;ford 5;trip").count(6), 8);
        due("behind one of 4", loaded("train 99 0 0;mule a 100;" + sacks + "ford 4;trip").count(6), 0);
        due("count(3) of what loses nothing", loaded("train 99 0 0;mule a 100;" + sacks + "ford 5;trip").count(3), 0);
        due("count(4) of what does not break", loaded("train 99 0 0;mule a 100;" + sacks + "ford 5;trip").count(4), 0);
    }

    private static void promise8Wages() {
        sentence("Promise 8", "5 wages that were paid, together");
        MuleTrain t = loaded("train 99 0 50;mule a 10;mule b 10;sack iron 1 0;sack iron 1 0;sack iron 1 0;pack 0 a left;trip");
        due("wages of one", t.count(5), 50);
        t.pack(1, 0, 0);
        t.pack(2, 1, 0);
        t.trip();
        due("wages of one and two", t.count(5), 150);
    }

    private static void promise8SinceTheLatestLoad() {
        sentence("Promise 8", "since the latest load() that replaced everything (with the lines of the text)");
        MuleTrain t = loaded("train 99 0 7;mule a 10;mule b 10;sack grain 1 9;sack iron 1 1;ford 5;pack 0 a left;trip");
        int[] due = {1, 4, 0, 5, 0, 7, 1};
        for (int what = 0; what <= 6; what++) {
            due("count(" + what + ") of the lines", t.count(what), due[what]);
        }
        thrown(STATE, "load of an error", () -> Check.load(t, "train 99 0 7;a"));
        for (int what = 0; what <= 6; what++) {
            due("count(" + what + ") behind an error", t.count(what), due[what]);
        }
        Check.load(t, HEAD);
        for (int what = 0; what <= 6; what++) {
            due("count(" + what + ") behind a load", t.count(what), 0);
        }
    }

    private static void promise9Mule() {
        sentence("Promise 9", "Throws `NoSuchElementException` if there is no such mule");
        MuleTrain one = loaded(HEAD + ";mule a 10");
        range(NO_SUCH, "mule(.., 0) of one", 0, 0, mule -> one.mule(mule, 0));
        MuleTrain six = loaded(FULL);
        range(NO_SUCH, "mule(.., 0) of six", 0, 5, mule -> six.mule(mule, 0));
        range(NO_SUCH, "mule(.., 9) of six", 0, 5, mule -> six.mule(mule, 9));
        MuleTrain none = loaded(HEAD);
        thrown(NO_SUCH, "mule(0, 0) of none", () -> none.mule(0, 0));
        thrown(NO_SUCH, "mule(-1, 0) of none", () -> none.mule(-1, 0));
        thrown(NO_SUCH, "mule(6, 10), where both are wrong", () -> six.mule(6, 10));
        thrown(NO_SUCH, "mule(-1, -1), where both are wrong", () -> six.mule(-1, -1));
    }

    private static void promise9What() {
        sentence("Promise 9", "Throws `IllegalArgumentException` if what is out of range");
        MuleTrain t = new MuleTrain();
        range(ARGUMENT, "mule(0, ..)", 0, 9, what -> t.mule(0, what));
        range(ARGUMENT, "mule(1, ..)", 0, 9, what -> t.mule(1, what));
    }

    private static void promise9Numbers() {
        sentence("Promise 9", "0 STRENGTH, 1 TIRED, 2 what it BEARS, 3 LOAD, 4 WEIGHT of the left side, 5 WEIGHT of the right side, 6 sacks on it, 7 1 if it is LEVEL, otherwise 0, 8 WORTH of the sacks on it, 9 letters of the name");
        MuleTrain t = loaded("train 0 0 0;mule a 10;mule bcdefg 300;sack iron 99 999;sack iron 98 998;sack iron 99 999;pack 0 bcdefg left;pack 1 bcdefg right;pack 2 bcdefg right");
        int[] empty = {10, 0, 10, 0, 0, 0, 0, 1, 0, 1};
        int[] full = {300, 0, 300, 296, 99, 197, 3, 0, 2996, 6};
        for (int what = 0; what <= 9; what++) {
            due("mule(0, " + what + ") without sacks", t.mule(0, what), empty[what]);
            due("mule(1, " + what + ") with three sacks", t.mule(1, what), full[what]);
        }
        MuleTrain many = loaded("train 0 0 0;mule a 300" + ";sack iron 1 999".repeat(16));
        many.fill(0);
        due("sacks on a mule with all", many.mule(0, 6), 16);
        due("WORTH on a mule with all", many.mule(0, 8), 15984);
        due("LEVEL with 8 and 8, TILT 0", many.mule(0, 7), 1);
    }

    private static void promise10Letters() {
        sentence("Promise 10", "Returns the letter as a byte; NONE if there is no such index.");
        MuleTrain t = loaded(HEAD + ";mule z 10;mule abcxyz 10;mule az 10");
        String[] names = {"z", "abcxyz", "az"};
        for (int mule = 0; mule < names.length; mule++) {
            String name = names[mule];
            for (int index = 0; index < name.length(); index++) {
                due("nameByte(" + mule + ", " + index + ")", t.nameByte(mule, index), name.charAt(index));
            }
            for (int index : new int[] {-1, name.length(), name.length() + 1, 6, 7, LEAST, MOST}) {
                due("nameByte(" + mule + ", " + index + ")", t.nameByte(mule, index), MuleTrain.NONE);
            }
        }
    }

    private static void promise10Mule() {
        sentence("Promise 10", "Throws `NoSuchElementException` if there is no such mule");
        MuleTrain t = new MuleTrain();
        range(NO_SUCH, "nameByte(.., 0)", 0, 1, mule -> t.nameByte(mule, 0));
        range(NO_SUCH, "nameByte(.., -1)", 0, 1, mule -> t.nameByte(mule, -1));
        MuleTrain none = loaded(HEAD);
        thrown(NO_SUCH, "nameByte(0, 0) of none", () -> none.nameByte(0, 0));
        MuleTrain six = loaded(FULL);
        range(NO_SUCH, "nameByte(.., 0) of six", 0, 5, mule -> six.nameByte(mule, 0));
    }

    private static void promise11Sack() {
        sentence("Promise 11", "Throws `NoSuchElementException` if there is no such sack");
        MuleTrain one = loaded(HEAD + ";sack iron 1 1");
        range(NO_SUCH, "sack(.., 0) of one", 0, 0, sack -> one.sack(sack, 0));
        MuleTrain full = loaded(FULL);
        range(NO_SUCH, "sack(.., 0) of 16", 0, 15, sack -> full.sack(sack, 0));
        range(NO_SUCH, "sack(.., 7) of 16", 0, 15, sack -> full.sack(sack, 7));
        MuleTrain none = loaded(HEAD);
        thrown(NO_SUCH, "sack(0, 0) of none", () -> none.sack(0, 0));
        thrown(NO_SUCH, "sack(16, 8), where both are wrong", () -> full.sack(16, 8));
        thrown(NO_SUCH, "sack(-1, -1), where both are wrong", () -> full.sack(-1, -1));
    }

    private static void promise11What() {
        sentence("Promise 11", "Throws `IllegalArgumentException` if what is out of range");
        MuleTrain t = new MuleTrain();
        range(ARGUMENT, "sack(0, ..)", 0, 7, what -> t.sack(0, what));
        range(ARGUMENT, "sack(4, ..)", 0, 7, what -> t.sack(4, what));
    }

    private static void promise11NoneIfNone() {
        sentence("Promise 11", "4 the mule that has it (NONE if none), 5 the side on which it is (NONE if none)");
        MuleTrain t = loaded(TILTED + SIX_MULES + ";sack iron 1 1;sack iron 1 1;sack iron 2 1;ford 9;pack 0 a left;pack 1 f right;pack 2 b right");
        due("the first mule", t.sack(0, 4), 0);
        due("the left side", t.sack(0, 5), 0);
        due("the last mule", t.sack(1, 4), 5);
        due("the right side", t.sack(1, 5), 1);
        t.unpack(1);
        due("mule behind unpack", t.sack(1, 4), MuleTrain.NONE);
        due("side behind unpack", t.sack(1, 5), MuleTrain.NONE);
        t.trip();
        due("mule of a delivered one", t.sack(0, 4), MuleTrain.NONE);
        due("side of a delivered one", t.sack(0, 5), MuleTrain.NONE);
        due("PLACE of a lost one", t.sack(2, 3), 3);
        due("mule of a lost one", t.sack(2, 4), MuleTrain.NONE);
        due("side of a lost one", t.sack(2, 5), MuleTrain.NONE);
    }

    private static void promise11Day() {
        sentence("Promise 11", "6 the DAY on which it was delivered or lost (as the trip began; NONE if it was neither)");
        MuleTrain t = loaded("train 99 0 0;mule a 100;sack iron 90 1;sack iron 10 2;sack iron 1 2;sack iron 1 2;ford 9;pack 0 a left;pack 1 a right");
        due("DAY of one on a mule", t.sack(0, 6), MuleTrain.NONE);
        due("DAY of one in the store", t.sack(2, 6), MuleTrain.NONE);
        t.trip();
        due("DAY of a lost one", t.sack(0, 6), 0);
        due("DAY of a delivered one", t.sack(1, 6), 0);
        due("DAY of one that stayed", t.sack(2, 6), MuleTrain.NONE);
        t.pack(2, 0, 0);
        t.trip();
        due("DAY of the second trip", t.sack(2, 6), 1);
        due("DAY of the first trip", t.sack(1, 6), 0);
        MuleTrain late = onDay(9998);
        late.trip();
        due("the greatest DAY", late.sack(0, 6), 9998);
    }

    private static void promise11AsItWasTold() {
        sentence("Promise 11", "7 WORTH as it was told");
        MuleTrain t = loaded("train 99 0 0;mule a 20;sack grain 1 999;sack glass 1 1;sack iron 18 0;ford 5;pack 0 a left;pack 1 a right;pack 2 a right;trip");
        int[] now = {499, 0, 0};
        int[] told = {999, 1, 0};
        for (int sack = 0; sack < 3; sack++) {
            due("WORTH of " + sack, t.sack(sack, 2), now[sack]);
            due("WORTH as it was told of " + sack, t.sack(sack, 7), told[sack]);
        }
    }

    private static void promise12Stage() {
        sentence("Promise 12", "Throws `NoSuchElementException` if there is no such stage");
        MuleTrain one = loaded(HEAD + ";road 1");
        range(NO_SUCH, "stage(.., 0) of one", 0, 0, stage -> one.stage(stage, 0));
        MuleTrain eight = loaded(FULL);
        range(NO_SUCH, "stage(.., 0) of eight", 0, 7, stage -> eight.stage(stage, 0));
        range(NO_SUCH, "stage(.., 1) of eight", 0, 7, stage -> eight.stage(stage, 1));
        MuleTrain none = loaded(HEAD);
        thrown(NO_SUCH, "stage(0, 0) of none", () -> none.stage(0, 0));
        thrown(NO_SUCH, "stage(8, 2), where both are wrong", () -> eight.stage(8, 2));
        thrown(NO_SUCH, "stage(-1, -1), where both are wrong", () -> eight.stage(-1, -1));
        eight.dropStage(7);
        thrown(NO_SUCH, "stage(7, 0) behind dropStage", () -> eight.stage(7, 0));
    }

    private static void promise12What() {
        sentence("Promise 12", "Throws `IllegalArgumentException` if what is out of range");
        MuleTrain t = loaded(HEAD + ";camp 24;ford 9;road 99");
        range(ARGUMENT, "stage(0, ..)", 0, 1, what -> t.stage(0, what));
        range(ARGUMENT, "stage(2, ..)", 0, 1, what -> t.stage(2, what));
        int[][] due = {{2, 24}, {1, 9}, {0, 99}};
        for (int stage = 0; stage < 3; stage++) {
            due("stage(" + stage + ", 0)", t.stage(stage, 0), due[stage][0]);
            due("stage(" + stage + ", 1)", t.stage(stage, 1), due[stage][1]);
        }
    }

    private static void promise13Gap() {
        sentence("Promise 13", "and the LOAD of each mule beyond what it BEARS (always 0)");
        due("gap() of nothing", loaded(HEAD).gap(), 0);
        due("gap() of a new train", new MuleTrain().gap(), 0);
        MuleTrain full = loaded("train 99 0 50;mule a 300;mule b 10" + ";sack iron 18 999".repeat(8) + ";sack glass 19 9".repeat(8) + ";ford 9;ford 5;road 99");
        full.fill(0);
        full.fill(1);
        due("gap() of full mules", full.gap(), 0);
        full.trip();
        due("gap() behind losses", full.gap(), 0);
        due("MONEY behind losses", full.value(8), full.count(1) - full.count(5));
        due("gap() with TIRED 100", tired(100, 0).gap(), 0);
        MuleTrain shed = loaded("train 99 50 0;mule a 10;sack grain 9 9;sack cloth 1 7;ford 5;road 99;pack 1 a left;pack 0 a right;trip");
        due("gap() behind wetting and shedding", shed.gap(), 0);
    }

    private static void promise13WorthAndMoney() {
        sentence("Promise 13", "Returns the differences without sign, together: of the WORTH of all sacks as it was told, and what it is in the store and on mules, with the counts 1 to 4; of MONEY, and count 1 less count 5");
        // One sack is in the store, one on a mule, one delivered, one lost, one wet and one broken, and MONEY is below 0.
        MuleTrain t = loaded("train 99 0 50;mule a 100;sack iron 9 1;sack iron 9 2;sack iron 9 4;sack iron 45 8;sack grain 1 16;sack glass 1 32;ford 5;"
            + "pack 2 a left;pack 3 a left;pack 4 a right;pack 5 a right;trip;pack 1 a left");
        int[] counts = {1, 8 + 8, 4, 8, 32, 50, 3};
        for (int what = 0; what <= 6; what++) {
            due("count(" + what + ")", t.count(what), counts[what]);
        }
        due("MONEY", t.value(8), -34);
        due("WORTH in the store and on mules", t.sack(0, 2) + t.sack(1, 2), 3);
        due("gap()", t.gap(), 0);
        t.trip();
        due("gap() behind another trip", t.gap(), 0);
    }

    private static void promise14NotInTheStore() {
        sentence("Promise 14", "1 it is not in the store");
        MuleTrain t = loaded("train 99 0 0;mule a 100;sack iron 90 1;sack iron 10 2;sack iron 1 2;sack iron 1 3;ford 9;pack 0 a left;pack 1 a right;trip;pack 2 a left");
        due("whyNot of a lost one", t.whyNot(0, 0), 1);
        due("whyNot of a delivered one", t.whyNot(1, 0), 1);
        due("whyNot of one on this mule", t.whyNot(2, 0), 1);
        due("whyNot of one in the store", t.whyNot(3, 0), 0);
        t.unpack(2);
        due("whyNot of one that is back in the store", t.whyNot(2, 0), 0);
    }

    private static void promise14TooHeavy() {
        sentence("Promise 14", "2 LOAD and its WEIGHT together would be more than the mule BEARS; 0 if it can");
        MuleTrain t = loaded(HEAD + ";mule a 10;sack iron 9 1;sack iron 10 1;sack iron 11 1;sack iron 1 1;sack iron 2 1");
        int[] due = {0, 0, 2, 0, 0};
        for (int sack = 0; sack < 5; sack++) {
            due("whyNot(" + sack + ") without LOAD", t.whyNot(sack, 0), due[sack]);
        }
        t.pack(0, 0, 0);
        due("whyNot of 1 with LOAD 9 of 10", t.whyNot(3, 0), 0);
        due("whyNot of 2 with LOAD 9 of 10", t.whyNot(4, 0), 2);
        t.pack(3, 0, 0);
        due("whyNot of 2 with LOAD 10 of 10", t.whyNot(4, 0), 2);
        MuleTrain tired = tired(99, 0);
        tired.addSack(0, 1, 1);
        tired.addSack(0, 2, 1);
        due("whyNot of 1 where 1 is borne", tired.whyNot(1, 0), 0);
        due("whyNot of 2 where 1 is borne", tired.whyNot(2, 0), 2);
        MuleTrain never = tired(100, 0);
        never.addSack(0, 1, 1);
        due("whyNot of 1 where 0 is borne", never.whyNot(1, 0), 2);
    }

    private static void promise14First() {
        sentence("Promise 14", "the first that holds");
        MuleTrain t = loaded(HEAD + ";mule a 20;mule b 10;sack iron 11 1;sack iron 10 1;pack 0 a left");
        due("whyNot of one on the mule, that is too heavy now", t.whyNot(0, 0), 1);
        due("whyNot of one on another mule, that is too heavy", t.whyNot(0, 1), 1);
        due("whyNot of one that is only too heavy", t.whyNot(1, 0), 2);
    }

    private static void promise14NoSuch() {
        sentence("Promise 14", "Throws `NoSuchElementException` if there is no such mule or sack");
        MuleTrain t = new MuleTrain();
        range(NO_SUCH, "whyNot(.., 0)", 0, 4, sack -> t.whyNot(sack, 0));
        range(NO_SUCH, "whyNot(0, ..)", 0, 1, mule -> t.whyNot(0, mule));
        thrown(NO_SUCH, "whyNot(5, 2)", () -> t.whyNot(5, 2));
        MuleTrain none = loaded(HEAD);
        thrown(NO_SUCH, "whyNot(0, 0) of none", () -> none.whyNot(0, 0));
        MuleTrain noMule = loaded(HEAD + ";sack iron 1 1");
        thrown(NO_SUCH, "whyNot(0, 0) without mules", () -> noMule.whyNot(0, 0));
        MuleTrain noSack = loaded(HEAD + ";mule a 10");
        thrown(NO_SUCH, "whyNot(0, 0) without sacks", () -> noSack.whyNot(0, 0));
    }

    private static void promise15Depth() {
        sentence("Promise 15", "Throws `IllegalArgumentException` if depth is out of range");
        MuleTrain t = new MuleTrain();
        range(ARGUMENT, "whyNoTrip", 0, 1, depth -> t.whyNoTrip(depth));
        MuleTrain none = loaded(HEAD);
        range(ARGUMENT, "whyNoTrip without mules", 0, 1, depth -> none.whyNoTrip(depth));
    }

    private static void promise15Reason() {
        sentence("Promise 15", "0 the reason why a trip cannot begin (section 4; 0 if it can)");
        MuleTrain t = loaded("train 1 0 0;mule a 10;sack iron 1 1;sack iron 1 1");
        due("without a sack", t.whyNoTrip(0), 1);
        t.pack(0, 0, 0);
        due("with 1 on the left, TILT 1", t.whyNoTrip(0), 0);
        t.pack(1, 0, 0);
        due("with 2 on the left, TILT 1", t.whyNoTrip(0), 2);
        t.shift(1);
        due("with 1 and 1", t.whyNoTrip(0), 0);
        // DAY is none of the reasons of section 4.
        due("on DAY 9999", onDay(9999).whyNoTrip(0), 0);
    }

    private static void promise15Cause() {
        sentence("Promise 15", "1 its cause: of 2 the first mule that is not LEVEL; otherwise NONE");
        MuleTrain t = loaded("train 1 0 0" + SIX_MULES + ";sack iron 2 1;sack iron 2 1;sack iron 2 1");
        due("cause without a sack", t.whyNoTrip(1), MuleTrain.NONE);
        t.pack(0, 5, 1);
        due("the last of six", t.whyNoTrip(1), 5);
        t.pack(1, 3, 0);
        due("the first of two", t.whyNoTrip(1), 3);
        t.pack(2, 0, 1);
        due("the first of six", t.whyNoTrip(1), 0);
        t.set(0, 2);
        due("cause where all are LEVEL", t.whyNoTrip(1), MuleTrain.NONE);
        due("cause of a new train", new MuleTrain().whyNoTrip(1), MuleTrain.NONE);
    }
}
