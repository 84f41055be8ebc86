/** The boundaries of "Terms" and of the sections 1 SACKS, 2 MULES and 3 SETTINGS AND THE WAY. */
final class BoundaryTerms extends Boundary {
    static void run() {
        termsNoMoreThanItBears();
        termsRoundedDown();
        section1SixteenSacks();
        section1Kinds();
        section1Weights();
        section1Worths();
        section1Places();
        section2SixMules();
        section2Names();
        section2Strengths();
        section2Tired();
        section2Sides();
        section2Bears();
        section2Level();
        section2ShedsAsLongAs();
        section2LeastWorth();
        section3Settings();
        section3Days();
        section3Money();
        section3EightStages();
        section3Stages();
    }

    private static void termsNoMoreThanItBears() {
        sentence("Terms", "No mule carries more than it bears.");
        MuleTrain t = loaded("train 99 0 0;mule a 50;sack iron 49 1;sack iron 1 1;sack iron 2 1;sack iron 1 0;pack 0 a left");
        refused(STATE, "pack of 1 more than it bears", t, () -> t.pack(2, 0, 0));
        due("pack of all that it bears", t.pack(1, 0, 0), 50);
        refused(STATE, "pack on a full mule", t, () -> t.pack(3, 0, 1));
        MuleTrain u = loaded("train 99 0 0;mule a 50;sack iron 49 1;sack iron 1 1;sack iron 1 0;pack 0 a left");
        due("fill of what it bears", u.fill(0), 1);
        due("LOAD behind fill", u.mule(0, 3), 50);
    }

    private static void termsRoundedDown() {
        sentence("Terms", "All numbers are whole, and all divisions are rounded down, unless something else is said.");
        // With 9 of 10 each mile tires by 1; 10 * 91 / 100 = 9.1, 10 * 90 / 100 = 9 and 10 * 89 / 100 = 8.9.
        int[][] bears = {{9, 9}, {10, 9}, {11, 8}};
        for (int[] each : bears) {
            MuleTrain t = loaded("train 99 0 0;mule a 10;sack iron 9 1;road " + each[0] + ";pack 0 a left;trip");
            due("TIRED", t.mule(0, 1), each[0]);
            due("BEARS of 10 with TIRED " + each[0], t.mule(0, 2), each[1]);
        }
    }

    private static void section1SixteenSacks() {
        sentence("Section 1", "There are 0 to 16 sacks, numbered from 0");
        MuleTrain none = loaded(HEAD);
        due("sacks of a text without one", none.value(1), 0);
        thrown(NO_SUCH, "sack(0, 0) without sacks", () -> none.sack(0, 0));
        due("addSack of the first", none.addSack(0, 1, 1), 0);
        String fifteen = HEAD + ";sack iron 1 1".repeat(15);
        MuleTrain t = loaded(fifteen);
        due("addSack of the 16th", t.addSack(3, 2, 3), 15);
        due("kind of the 16th", t.sack(15, 0), 3);
        thrown(NO_SUCH, "sack(16, 0)", () -> t.sack(16, 0));
        refused(STATE, "addSack of a 17th", t, () -> t.addSack(3, 2, 3));
        due("load of a 16th", loaded(fifteen + ";sack glass 2 3").value(1), 16);
        error(5, fifteen + ";sack glass 2 3;^sack glass 2 3");
    }

    private static void section1Kinds() {
        sentence("Section 1", "each of a kind (0 grain, 1 cloth, 2 iron, 3 glass)");
        MuleTrain t = loaded(HEAD + ";sack grain 1 1;sack cloth 1 1;sack iron 1 1;sack glass 1 1");
        for (int kind = 0; kind <= 3; kind++) {
            due("kind of the sack " + kind, t.sack(kind, 0), kind);
        }
        range(ARGUMENT, "addSack of a kind", 0, 3, kind -> t.addSack(kind, 1, 1));
        due("kind of the least", t.sack(4, 0), 0);
        due("kind of the greatest", t.sack(5, 0), 3);
    }

    private static void section1Weights() {
        sentence("Section 1", "with a WEIGHT (1 to 99)");
        MuleTrain t = new MuleTrain();
        range(ARGUMENT, "addSack of a WEIGHT", 1, 99, weight -> t.addSack(0, weight, 1));
        due("the least WEIGHT", t.sack(5, 1), 1);
        due("the greatest WEIGHT", t.sack(6, 1), 99);
        rangeInText(1, 99, HEAD + ";sack iron # 1");
        due("the least WEIGHT of a text", loaded(HEAD + ";sack iron 1 5").sack(0, 1), 1);
        due("the greatest WEIGHT of a text", loaded(HEAD + ";sack iron 99 5").sack(0, 1), 99);
    }

    private static void section1Worths() {
        sentence("Section 1", "and a WORTH (0 to 999 as it is told; it can become less)");
        MuleTrain t = loaded("train 99 0 0;mule a 300;ford 9");
        range(ARGUMENT, "addSack of a WORTH", 0, 999, worth -> t.addSack(0, 1, worth));
        due("the least WORTH", t.sack(0, 2), 0);
        due("the greatest WORTH", t.sack(1, 2), 999);
        rangeInText(0, 999, HEAD + ";sack iron 1 #");
        t.fill(0);
        t.trip();
        due("WORTH 0 that got wet", t.sack(0, 2), 0);
        due("WORTH 999 that got wet", t.sack(1, 2), 499);
        due("WORTH 999 as it was told", t.sack(1, 7), 999);
        MuleTrain glass = loaded("train 99 0 0;mule a 20;sack glass 1 999;sack iron 19 1;ford 1;pack 0 a left;pack 1 a right;trip");
        due("WORTH of 999 that broke", glass.sack(0, 2), 0);
        due("WORTH as it was told of what broke", glass.sack(0, 7), 999);
    }

    private static void section1Places() {
        sentence("Section 1", "PLACE of a sack is 0 in the store (at first), 1 on a mule, 2 delivered, 3 lost.");
        MuleTrain t = loaded("train 99 0 0;mule a 100;sack iron 51 1;sack iron 50 2;sack iron 1 3;ford 5;pack 0 a left");
        due("PLACE in the store", t.sack(1, 3), 0);
        due("PLACE on a mule", t.sack(0, 3), 1);
        t.addSack(0, 1, 1);
        due("PLACE of a new sack", t.sack(3, 3), 0);
        t.unpack(0);
        due("PLACE behind unpack", t.sack(0, 3), 0);
        t.pack(0, 0, 0);
        t.trip();
        due("PLACE of a lost sack", t.sack(0, 3), 3);
        t.pack(1, 0, 0);
        t.trip();
        due("PLACE of a delivered sack", t.sack(1, 3), 2);
    }

    private static void section2SixMules() {
        sentence("Section 2", "There are 0 to 6 mules, numbered from 0");
        MuleTrain none = loaded(HEAD);
        due("mules of a text without one", none.value(0), 0);
        thrown(NO_SUCH, "mule(0, 0) without mules", () -> none.mule(0, 0));
        String five = HEAD + ";mule a 10;mule b 20;mule c 30;mule d 40;mule e 50";
        MuleTrain t = loaded(five + ";mule f 60");
        due("mules of a text with six", t.value(0), 6);
        due("STRENGTH of the first", t.mule(0, 0), 10);
        due("STRENGTH of the sixth", t.mule(5, 0), 60);
        thrown(NO_SUCH, "mule(6, 0)", () -> t.mule(6, 0));
        MuleTrain fewer = loaded(five);
        thrown(NO_SUCH, "mule(5, 0) of five", () -> fewer.mule(5, 0));
        error(5, five + ";mule f 60;^mule g 70");
    }

    private static void section2Names() {
        sentence("Section 2", "each with a name (1 to 6 letters, all different)");
        due("letters of the shortest", loaded(HEAD + ";mule z 10").mule(0, 9), 1);
        due("letters of the longest", loaded(HEAD + ";mule abcxyz 10").mule(0, 9), 6);
        error(1, HEAD + ";mule ^abcxyza 10");
        error(1, HEAD + ";mule ^10");
        MuleTrain alike = loaded(HEAD + ";mule a 10;mule aa 10;mule ab 10;mule ba 10;mule aaaaaa 10;mule aaaaab 10");
        due("mules whose names differ in a letter", alike.value(0), 6);
        error(4, HEAD + ";mule a 10;mule aa 10;mule ab 10;mule aaaaaa 10;mule aaaaab 10;mule ^aaaaab 10");
        error(4, HEAD + ";mule z 10;mule ^z 10");
    }

    private static void section2Strengths() {
        sentence("Section 2", "a STRENGTH (10 to 300)");
        rangeInText(10, 300, HEAD + ";mule a #");
        due("the least STRENGTH", loaded(HEAD + ";mule a 10").mule(0, 0), 10);
        due("the greatest STRENGTH", loaded(HEAD + ";mule a 300").mule(0, 0), 300);
    }

    private static void section2Tired() {
        sentence("Section 2", "and TIRED (0 to 100; 0 at first)");
        due("TIRED at first", new MuleTrain().mule(0, 1), 0);
        due("TIRED at first of a text", loaded(HEAD + ";mule a 10").mule(0, 1), 0);
        MuleTrain most = tired(100, 50);
        most.addSack(0, 1, 1);
        due("bestSack of a mule with TIRED 100", most.bestSack(0), MuleTrain.NONE);
        due("TIRED 100 behind a day", most.rest(1), 50);
        due("TIRED 50 behind a day", most.rest(1), 0);
        due("TIRED 0 behind a day", most.rest(1), 0);
    }

    private static void section2Sides() {
        sentence("Section 2", "A mule has two sides, left (0) and right (1); LOAD is the WEIGHT of all sacks on it.");
        MuleTrain t = loaded("train 99 0 0;mule a 300;sack iron 99 1;sack iron 99 1;sack iron 99 1;sack iron 3 1");
        due("LOAD without sacks", t.mule(0, 3), 0);
        t.pack(0, 0, 0);
        due("left side", t.mule(0, 4), 99);
        due("right side", t.mule(0, 5), 0);
        t.pack(1, 0, 1);
        t.pack(2, 0, 1);
        due("left side behind the others", t.mule(0, 4), 99);
        due("right side behind the others", t.mule(0, 5), 198);
        due("the greatest LOAD", t.pack(3, 0, 0), 300);
        MuleTrain text = loaded("train 99 0 0;mule a 300;sack iron 9 1;sack iron 8 1;pack 0 a left;pack 1 a right");
        due("left of a text", text.mule(0, 4), 9);
        due("right of a text", text.mule(0, 5), 8);
    }

    private static void section2Bears() {
        sentence("Section 2", "It BEARS STRENGTH times (100 less TIRED) divided by 100.");
        int[] tired = {0, 1, 99, 100};
        int[] bears = {100, 99, 1, 0};
        for (int i = 0; i < tired.length; i++) {
            due("BEARS with TIRED " + tired[i], tired(tired[i], 0).mule(0, 2), bears[i]);
        }
        due("BEARS of the strongest", loaded(HEAD + ";mule a 300").mule(0, 2), 300);
        due("BEARS of the weakest", loaded(HEAD + ";mule a 10").mule(0, 2), 10);
        // 11 * 99 / 100 = 10.89, 300 * 99 / 100 = 297 and 299 * 99 / 100 = 296.01.
        String road10 = ";sack iron 1 1;road 10;pack 0 a left;trip";
        MuleTrain weak = loaded("train 99 0 0;mule a 11" + road10);
        due("TIRED of the weak", weak.mule(0, 1), 1);
        due("BEARS of 11 with TIRED 1", weak.mule(0, 2), 10);
        due("BEARS of 300 with TIRED 1", loaded("train 99 0 0;mule a 300" + road10).mule(0, 2), 297);
        due("BEARS of 299 with TIRED 1", loaded("train 99 0 0;mule a 299" + road10).mule(0, 2), 296);
    }

    private static void section2Level() {
        sentence("Section 2", "It is LEVEL if the difference of the WEIGHTs of both sides is not more than TILT.");
        String both = ";mule a 300;sack iron 99 1;sack iron 1 1;sack iron 50 1;pack 0 a ";
        for (String side : new String[] {"left", "right"}) {
            MuleTrain t = loaded("train 99 0 0" + both + side);
            due("LEVEL with 99 on the " + side + ", TILT 99", t.mule(0, 7), 1);
            t.set(0, 98);
            due("LEVEL with 99 on the " + side + ", TILT 98", t.mule(0, 7), 0);
            t.set(0, 99);
            t.pack(1, 0, side.equals("left") ? 0 : 1);
            due("LEVEL with 100 on the " + side + ", TILT 99", t.mule(0, 7), 0);
        }
        MuleTrain t = loaded("train 0 0 0;mule a 300;sack iron 50 1;sack iron 50 1;sack iron 1 1");
        due("LEVEL without sacks, TILT 0", t.mule(0, 7), 1);
        t.pack(0, 0, 0);
        t.pack(1, 0, 1);
        due("LEVEL with 50 and 50, TILT 0", t.mule(0, 7), 1);
        t.pack(2, 0, 1);
        due("LEVEL with 50 and 51, TILT 0", t.mule(0, 7), 0);
        t.shift(2);
        due("LEVEL with 51 and 50, TILT 0", t.mule(0, 7), 0);
        t.set(0, 1);
        due("LEVEL with 51 and 50, TILT 1", t.mule(0, 7), 1);
    }

    private static void section2ShedsAsLongAs() {
        sentence("Section 2", "A mule sheds to a limit: as long as its LOAD is more than the limit");
        // The ford of 5 lets 50 of 100 through.
        String start = "train 99 0 0;mule a 100;sack iron 1 5;sack iron 1 6;sack iron 49 7;sack iron 1 8;ford 5;pack 2 a left;pack 3 a right;";
        int[][] lost = {{0, 0, 0}, {3, 0, 1}, {3, 3, 2}};
        String[] packed = {"trip", "pack 0 a left;trip", "pack 0 a left;pack 1 a left;trip"};
        for (int i = 0; i < packed.length; i++) {
            MuleTrain t = loaded(start + packed[i]);
            due("PLACE of 0 with LOAD " + (50 + i), t.sack(0, 3), lost[i][0]);
            due("PLACE of 1 with LOAD " + (50 + i), t.sack(1, 3), lost[i][1]);
            due("sacks lost of LOAD " + (50 + i), t.value(5), lost[i][2]);
        }
        // Shedding goes on until nothing is left: a limit of 0 at TIRED 100.
        MuleTrain all = loaded("train 99 0 0;mule a 10;sack iron 4 1;sack iron 5 2;sack iron 1 3;road 99;pack 0 a left;pack 1 a left;pack 2 a right;trip");
        due("BEARS at TIRED 100", all.mule(0, 2), 0);
        due("sacks lost to a limit of 0", all.value(5), 3);
    }

    private static void section2LeastWorth() {
        sentence("Section 2", "the sack on it with the least WORTH is lost (of several the one with the smallest number)");
        String tail = ";ford 5;pack 0 a left;pack 1 a right;pack 2 a left;trip";
        MuleTrain least = loaded("train 99 0 0;mule a 100;sack iron 17 6;sack iron 17 5;sack iron 17 7" + tail);
        int[] places = {2, 3, 2};
        MuleTrain alike = loaded("train 99 0 0;mule a 100;sack iron 17 6;sack iron 17 5;sack iron 17 5" + tail);
        MuleTrain first = loaded("train 99 0 0;mule a 100;sack iron 17 5;sack iron 17 5;sack iron 17 5" + tail);
        MuleTrain zero = loaded("train 99 0 0;mule a 100;sack iron 17 999;sack iron 17 1;sack iron 17 0" + tail);
        for (int sack = 0; sack < 3; sack++) {
            due("PLACE of " + sack + " of 6, 5, 7", least.sack(sack, 3), places[sack]);
            due("PLACE of " + sack + " of 6, 5, 5", alike.sack(sack, 3), places[sack]);
            due("PLACE of " + sack + " of 5, 5, 5", first.sack(sack, 3), sack == 0 ? 3 : 2);
            due("PLACE of " + sack + " of 999, 1, 0", zero.sack(sack, 3), sack == 2 ? 3 : 2);
        }
        // The sacks of the other mule and those in the store are worth less, and stay.
        MuleTrain other = loaded("train 99 0 0;mule a 100;mule b 100;sack iron 1 0;sack iron 1 1;sack iron 51 2;ford 5;pack 1 b left;pack 2 a left;trip");
        due("PLACE in the store", other.sack(0, 3), 0);
        due("PLACE on the other", other.sack(1, 3), 2);
        due("PLACE of the lost", other.sack(2, 3), 3);
    }

    private static void section3Settings() {
        sentence("Section 3", "0 TILT (0 to 99), 1 EASE (0 to 50), 2 WAGE (0 to 50)");
        MuleTrain t = new MuleTrain();
        range(ARGUMENT, "set(0, ..)", 0, 99, value -> t.set(0, value));
        range(ARGUMENT, "set(1, ..)", 0, 50, value -> t.set(1, value));
        range(ARGUMENT, "set(2, ..)", 0, 50, value -> t.set(2, value));
        rangeInText(0, 99, "train # 0 0");
        rangeInText(0, 50, "train 0 # 0");
        rangeInText(0, 50, "train 0 0 #");
        MuleTrain most = loaded("train 99 50 49");
        due("TILT", most.setting(0), 99);
        due("EASE", most.setting(1), 50);
        due("WAGE", most.setting(2), 49);
    }

    private static void section3Days() {
        sentence("Section 3", "DAY is 0 at first, and at most 9999.");
        due("DAY at first", new MuleTrain().value(7), 0);
        due("DAY of a text", loaded(HEAD).value(7), 0);
        MuleTrain t = onDay(9998);
        due("rest(1) on DAY 9998", t.rest(1), 0);
        due("the last DAY", t.value(7), 9999);
        refused(STATE, "rest(1) on DAY 9999", t, () -> t.rest(1));
        MuleTrain trip = onDay(9998);
        due("trip() on DAY 9998", trip.trip(), 149);
        due("DAY behind it", trip.value(7), 9999);
        MuleTrain late = onDay(9999);
        refused(STATE, "trip() on DAY 9999", late, () -> late.trip());
    }

    private static void section3Money() {
        sentence("Section 3", "MONEY is 0 at first; it can be below 0.");
        due("MONEY at first", new MuleTrain().value(8), 0);
        int[] money = {1, 0, -1};
        for (int wage = 0; wage <= 2; wage++) {
            MuleTrain t = loaded("train 99 0 " + wage + ";mule a 10;sack iron 1 1;pack 0 a left;trip");
            due("MONEY with WAGE " + wage, t.value(8), money[wage]);
        }
        MuleTrain poor = loaded("train 99 0 50;mule a 10;sack iron 1 0;sack iron 1 0;pack 0 a left;trip;pack 1 a left;trip");
        due("MONEY that becomes less again", poor.value(8), -100);
    }

    private static void section3EightStages() {
        sentence("Section 3", "The way has 0 to 8 stages, numbered from 0");
        MuleTrain none = loaded(HEAD);
        due("stages of a text without one", none.value(6), 0);
        thrown(NO_SUCH, "stage(0, 0) without stages", () -> none.stage(0, 0));
        due("addStage of the first", none.addStage(2, 24), 0);
        String seven = HEAD + ";road 1;ford 2;camp 3;road 4;ford 5;camp 6;road 7";
        MuleTrain t = loaded(seven);
        thrown(NO_SUCH, "stage(7, 0) of seven", () -> t.stage(7, 0));
        due("addStage of the 8th", t.addStage(1, 8), 7);
        due("the first stage", t.stage(0, 1), 1);
        due("the 8th stage", t.stage(7, 1), 8);
        thrown(NO_SUCH, "stage(8, 0)", () -> t.stage(8, 0));
        refused(STATE, "addStage of a 9th", t, () -> t.addStage(1, 8));
        due("a text with eight", loaded(seven + ";ford 8").value(6), 8);
        error(5, seven + ";ford 8;^ford 9");
        error(5, seven + ";ford 8;^road 9");
        error(5, seven + ";ford 8;^camp 9");
    }

    private static void section3Stages() {
        sentence("Section 3", "a road of 1 to 99 miles, a ford with a depth of 1 to 9, or a camp of 1 to 24 hours");
        int[] most = {99, 9, 24};
        String[] words = {"road", "ford", "camp"};
        MuleTrain t = loaded(HEAD);
        for (int kind = 0; kind <= 2; kind++) {
            int each = kind;
            range(ARGUMENT, "addStage of a " + words[kind], 1, most[kind], number -> t.addStage(each, number));
            due("the least of a " + words[kind], t.stage(2 * kind, 1), 1);
            due("the most of a " + words[kind], t.stage(2 * kind + 1, 1), most[kind]);
            due("the kind of a " + words[kind], t.stage(2 * kind, 0), kind);
            rangeInText(1, most[kind], HEAD + ";" + words[kind] + " #");
        }
    }
}
