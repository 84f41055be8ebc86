/** The boundaries of the promises 16 to 25: what would be, where nothing changes. */
final class BoundaryWhatIf extends Boundary {
    private static final String SIX_MULES = ";mule a 10;mule b 10;mule c 10;mule d 10;mule e 10;mule f 300";
    private static final String WITHOUT_SACKS = TILTED + SIX_MULES + ";road 99;ford 9";

    static void run() {
        nothingChanges();
        questionsOfTrains();
        questionsOfMules();
        promise16Money();
        promise16BelowZero();
        promise16WhetherItCanBegin();
        promise16NoSack();
        promise17Fates();
        promise17WorthLess();
        promise17WhetherItCanBegin();
        promise17NoSuch();
        promise18Tired();
        promise18WithoutSacks();
        promise18WhetherItCanBegin();
        promise18Ends();
        promise18NoSuch();
        promise19Room();
        promise19Most();
        promise19InTheStore();
        promise19NoSuch();
        promise20CanBePacked();
        promise20Fractions();
        promise20SmallestNumber();
        promise20None();
        promise20NoSuch();
        promise21Sides();
        promise21NoSuch();
        promise22Days();
        promise22Fresh();
        promise22Never();
        promise22NoSuch();
        promise23Depths();
        promise23AsItIsNow();
        promise23WithoutSacks();
        promise23None();
        promise23NoSuch();
        promise24Divided();
        promise24None();
        promise25Divided();
        promise25Zero();
        promise25NoSuch();
    }

    private static void nothingChanges() {
        sentence("Section 6", "the interface says: ---- what would be: nothing changes.");
        for (MuleTrain t : new MuleTrain[] {new MuleTrain(), notLevel()}) {
            int last = t.writeMule(1) - 1;
            int digit = t.outputByte(last);
            String before = Check.all(t);
            int changes = t.value(10);
            for (int times = 0; times < 2; times++) {
                t.tripBrings();
                t.worthOfLoads();
                for (int mule = 0; mule < 2; mule++) {
                    t.tiredBy(mule);
                    t.bestWorth(mule);
                    t.bestSack(mule);
                    t.lighter(mule);
                    t.freshIn(mule);
                    t.deepest(mule);
                    t.filled(mule);
                }
                for (int sack = 0; sack < 5; sack++) {
                    t.fate(sack);
                }
            }
            same("questions", before, t);
            due("changes behind questions", t.value(10), changes);
            due("the output behind questions", t.outputByte(last), digit);
        }
    }

    /** A trip would make every mule tired, lose and wet sacks and break glass, but it cannot begin. */
    private static MuleTrain notLevel() {
        MuleTrain train = loaded("train 0 9 9;mule a 100;mule b 50;sack iron 51 1;sack glass 9 9;sack cloth 9 9;sack grain 9 9;sack grain 9 9;ford 5;road 99;"
            + "pack 0 a left;pack 1 a left;pack 2 a left;pack 3 b left");
        train.save(0);
        train.set(2, 10);
        return train;
    }

    private static void questionsOfTrains() {
        sentence("Section 6", "what would be: nothing changes.");
        changesNothing("tripBrings()", notLevelWithWay(), t -> t.tripBrings());
        changesNothing("worthOfLoads()", notLevelWithWay(), t -> t.worthOfLoads());
        changesNothing("fate(0)", notLevelWithWay(), t -> t.fate(0));
        changesNothing("fate(4)", notLevelWithWay(), t -> t.fate(4));
    }

    private static void questionsOfMules() {
        sentence("Section 6", "what would be: nothing changes.");
        for (int mule = 0; mule < 2; mule++) {
            int each = mule;
            changesNothing("tiredBy(" + mule + ")", notLevelWithWay(), t -> t.tiredBy(each));
            changesNothing("bestWorth(" + mule + ")", notLevelWithWay(), t -> t.bestWorth(each));
            changesNothing("bestSack(" + mule + ")", notLevelWithWay(), t -> t.bestSack(each));
            changesNothing("lighter(" + mule + ")", notLevelWithWay(), t -> t.lighter(each));
            changesNothing("freshIn(" + mule + ")", notLevelWithWay(), t -> t.freshIn(each));
            changesNothing("deepest(" + mule + ")", notLevelWithWay(), t -> t.deepest(each));
            changesNothing("filled(" + mule + ")", notLevelWithWay(), t -> t.filled(each));
        }
    }

    /** As above, and the way that is written begins with a road. */
    private static MuleTrain notLevelWithWay() {
        MuleTrain train = notLevel();
        train.dropStage(0);
        train.addStage(1, 5);
        return train;
    }

    private static void promise16Money() {
        sentence("Promise 16", "Returns how much MONEY would become more by a trip now");
        MuleTrain t = loaded("train 99 0 0;mule a 300" + ";sack iron 1 999".repeat(16));
        t.fill(0);
        due("tripBrings() of all that there can be", t.tripBrings(), 15984);
        due("trip()", t.trip(), 15984);
        due("MONEY", t.value(8), 15984);
        MuleTrain one = loaded("train 99 0 0;mule a 10;sack iron 1 1;sack iron 1 1;pack 0 a left;trip;pack 1 a left");
        due("tripBrings(), not MONEY itself", one.tripBrings(), 1);
        // On the last DAY no trip is made, but the question stands.
        due("tripBrings() on DAY 9999", onDay(9999).tripBrings(), 149);
    }

    private static void promise16BelowZero() {
        sentence("Promise 16", "(below 0 if less)");
        StringBuilder text = new StringBuilder("train 99 0 50" + SIX_MULES);
        for (int sack = 0; sack < 6; sack++) {
            text.append(";sack iron 1 0;pack ").append(sack).append(' ').append((char) ('a' + sack)).append(" left");
        }
        MuleTrain t = loaded(text.toString());
        due("tripBrings() of six wages", t.tripBrings(), -300);
        due("trip() of six wages", t.trip(), -300);
        int[] brings = {1, 0, -1};
        for (int wage = 0; wage <= 2; wage++) {
            due("tripBrings() of 1 less " + wage, loaded("train 99 0 " + wage + ";mule a 10;sack iron 1 1;pack 0 a left").tripBrings(), brings[wage]);
        }
    }

    private static void promise16WhetherItCanBegin() {
        sentence("Promise 16", "whether it can begin or not (0 if no mule has a sack)");
        MuleTrain t = loaded("train 1 0 3;mule a 10;sack grain 2 10;ford 5;pack 0 a left");
        due("whyNoTrip(0)", t.whyNoTrip(0), 2);
        due("tripBrings() of a mule that is not LEVEL", t.tripBrings(), 2);
        t.set(0, 2);
        due("whyNoTrip(0)", t.whyNoTrip(0), 0);
        due("tripBrings() of a mule that is LEVEL", t.tripBrings(), 2);
    }

    private static void promise16NoSack() {
        sentence("Promise 16", "(0 if no mule has a sack)");
        due("tripBrings() without mules", loaded("train 0 0 50").tripBrings(), 0);
        MuleTrain t = loaded("train 99 0 50;mule a 10;sack iron 1 9");
        due("tripBrings() without a sack on a mule", t.tripBrings(), 0);
        t.pack(0, 0, 0);
        due("tripBrings() with one", t.tripBrings(), -41);
        t.trip();
        due("tripBrings() behind the trip", t.tripBrings(), 0);
    }

    private static void promise17Fates() {
        sentence("Promise 17", "0 nothing, as it is on no mule, 1 it would be delivered as it is, 2 it would be delivered, but worth less than now, 3 it would be lost");
        MuleTrain t = loaded("train 99 0 0;mule a 100;sack iron 50 1;sack iron 49 5;sack grain 1 5;sack glass 1 0;sack iron 1 1;ford 5;pack 0 a left;pack 1 a right;pack 2 a left");
        int[] due = {3, 1, 2, 0, 0};
        for (int sack = 0; sack < 5; sack++) {
            due("fate(" + sack + ")", t.fate(sack), due[sack]);
        }
        t.trip();
        for (int sack = 0; sack < 5; sack++) {
            due("fate(" + sack + ") behind the trip", t.fate(sack), 0);
        }
        MuleTrain full = loaded("train 99 0 0;mule a 300" + ";sack iron 18 1".repeat(16));
        full.fill(0);
        due("fate(15) without a way", full.fate(15), 1);
        full.addStage(1, 1);
        // 288 of 270: the first one is lost, and the last one stays.
        due("fate(0) at a ford of 1", full.fate(0), 3);
        due("fate(15) at a ford of 1", full.fate(15), 1);
    }

    private static void promise17WorthLess() {
        sentence("Promise 17", "2 it would be delivered, but worth less than now");
        // Grain and cloth of WORTH 0 lose nothing, those of WORTH 1 lose it; glass of WORTH 0 that breaks loses nothing.
        MuleTrain t = loaded("train 99 0 0;mule a 100;sack grain 1 0;sack grain 1 1;sack cloth 1 0;sack cloth 1 1;sack iron 1 1;sack glass 1 1;ford 5;"
            + "pack 0 a left;pack 1 a left;pack 2 a left;pack 3 a left;pack 4 a left;pack 5 a left");
        int[] due = {1, 2, 1, 2, 1, 1};
        for (int sack = 0; sack < 6; sack++) {
            due("fate(" + sack + ") at depth 5", t.fate(sack), due[sack]);
        }
        t.dropStage(0);
        t.addStage(1, 4);
        for (int sack = 0; sack < 6; sack++) {
            due("fate(" + sack + ") at depth 4", t.fate(sack), 1);
        }
        MuleTrain broken = loaded("train 99 0 0;mule a 10;sack iron 8 0;sack glass 1 1;sack glass 1 0;ford 1;pack 0 a left;pack 1 a left;pack 2 a left");
        due("fate of glass of 1 that would break", broken.fate(1), 2);
        due("fate of glass of 0 that would break", broken.fate(2), 1);
    }

    private static void promise17WhetherItCanBegin() {
        sentence("Promise 17", "whether the trip can begin or not");
        MuleTrain t = loaded("train 49 0 0;mule a 100;sack iron 50 1;sack grain 1 5;ford 5;pack 0 a left;pack 1 a left");
        due("whyNoTrip(0)", t.whyNoTrip(0), 2);
        due("fate(0)", t.fate(0), 3);
        due("fate(1)", t.fate(1), 2);
        MuleTrain late = onDay(9999);
        due("fate(0) on DAY 9999", late.fate(0), 2);
        due("fate(2) on DAY 9999", late.fate(2), 0);
        due("fate(3) on DAY 9999", late.fate(3), 1);
    }

    private static void promise17NoSuch() {
        sentence("Promise 17", "Throws `NoSuchElementException` if there is no such sack");
        MuleTrain t = new MuleTrain();
        range(NO_SUCH, "fate", 0, 4, sack -> t.fate(sack));
        MuleTrain full = loaded(HEAD + ";sack iron 1 1".repeat(16));
        range(NO_SUCH, "fate of 16", 0, 15, sack -> full.fate(sack));
        MuleTrain none = loaded(HEAD);
        thrown(NO_SUCH, "fate(0) of none", () -> none.fate(0));
    }

    private static void promise18Tired() {
        sentence("Promise 18", "Returns TIRED of the mule behind a trip now");
        MuleTrain t = loaded("train 99 0 0;mule a 100;mule b 300;sack iron 90 1;sack iron 1 1;road 9;pack 0 a left;pack 1 b left");
        due("tiredBy(0) of 9 miles", t.tiredBy(0), 9);
        due("tiredBy(1) of 9 miles", t.tiredBy(1), 0);
        t.addStage(0, 10);
        due("tiredBy(0) of 9 and 10 miles", t.tiredBy(0), 19);
        due("tiredBy(1) of 9 and 10 miles", t.tiredBy(1), 1);
        t.trip();
        due("TIRED of a", t.mule(0, 1), 19);
        due("TIRED of b", t.mule(1, 1), 1);
    }

    private static void promise18WithoutSacks() {
        sentence("Promise 18", "(as it is, for one without sacks)");
        MuleTrain fresh = loaded(WITHOUT_SACKS);
        due("tiredBy(0) where no mule has a sack", fresh.tiredBy(0), 0);
        due("tiredBy(5) where no mule has a sack", fresh.tiredBy(5), 0);
        MuleTrain t = tired(50, 50);
        t.addStage(2, 24);
        due("tiredBy(0) with TIRED 50, without a sack", t.tiredBy(0), 50);
        t.addSack(0, 1, 1);
        t.pack(1, 0, 0);
        due("tiredBy(0) with TIRED 50 and a sack", t.tiredBy(0), 0);
        MuleTrain most = tired(100, 0);
        due("tiredBy(0) with TIRED 100, without a sack", most.tiredBy(0), 100);
    }

    private static void promise18WhetherItCanBegin() {
        sentence("Promise 18", "whether it can begin or not");
        MuleTrain t = loaded("train 89 0 0;mule a 100;sack iron 90 1;road 9;pack 0 a left");
        due("whyNoTrip(0)", t.whyNoTrip(0), 2);
        due("tiredBy(0)", t.tiredBy(0), 9);
        due("tiredBy(0) on DAY 9999", onDay(9999).tiredBy(0), 12);
    }

    private static void promise18Ends() {
        sentence("Promise 18", "Returns TIRED of the mule");
        MuleTrain t = loaded("train 99 50 0;mule a 10;sack iron 10 1;road 99;pack 0 a left");
        due("tiredBy(0) at its most", t.tiredBy(0), 100);
        t.addStage(2, 1);
        due("tiredBy(0) behind a camp of 1", t.tiredBy(0), 95);
        t.addStage(2, 19);
        due("tiredBy(0) behind a camp of 19 more", t.tiredBy(0), 0);
        due("tiredBy(0) without a way", loaded("train 99 0 0;mule a 10;sack iron 10 1;pack 0 a left").tiredBy(0), 0);
    }

    private static void noSuchMule(String name, OfQuestion question) {
        MuleTrain t = new MuleTrain();
        range(NO_SUCH, name, 0, 1, mule -> question.ask(t, mule));
        MuleTrain six = loaded(WITHOUT_SACKS);
        range(NO_SUCH, name + " of six", 0, 5, mule -> question.ask(six, mule));
        MuleTrain none = loaded(HEAD);
        thrown(NO_SUCH, name + " of none", () -> question.ask(none, 0));
    }

    private interface OfQuestion {
        double ask(MuleTrain train, int mule);
    }

    private static void promise18NoSuch() {
        sentence("Promise 18", "Throws `NoSuchElementException` if there is no such mule");
        noSuchMule("tiredBy", (t, mule) -> t.tiredBy(mule));
    }

    private static void promise19Room() {
        sentence("Promise 19", "Returns the greatest WORTH, together, of sacks in the store that could be packed on this mule, with what it has.");
        MuleTrain t = loaded("train 0 0 0;mule a 11;mule b 10;sack iron 11 100;sack iron 10 50;sack iron 1 20");
        due("bestWorth of 11", t.bestWorth(0), 100);
        due("bestWorth of 10", t.bestWorth(1), 50);
        t.pack(2, 0, 0);
        due("bestWorth of 10 of 11", t.bestWorth(0), 50);
        due("bestWorth of 10 without the light one", t.bestWorth(1), 50);
        t.pack(1, 0, 0);
        due("bestWorth of a full mule", t.bestWorth(0), 0);
        due("bestWorth of what is too heavy", t.bestWorth(1), 0);
        // Two light ones are worth more than the heavy one that is dearer for its WEIGHT, if there is room for both.
        MuleTrain both = loaded("train 0 0 0;mule a 10;mule b 11;mule c 12;sack iron 7 14;sack iron 5 8;sack iron 5 8;sack iron 6 9");
        due("bestWorth of 10", both.bestWorth(0), 16);
        due("bestWorth of 11", both.bestWorth(1), 17);
        due("bestWorth of 12", both.bestWorth(2), 22);
        MuleTrain tired = tired(99, 0);
        tired.addSack(0, 2, 9);
        due("bestWorth of 2 where 1 is borne", tired.bestWorth(0), 0);
        tired.addSack(0, 1, 7);
        tired.addSack(0, 1, 8);
        due("bestWorth of 1 where 1 is borne", tired.bestWorth(0), 8);
        MuleTrain never = tired(100, 0);
        never.addSack(0, 1, 7);
        due("bestWorth where 0 is borne", never.bestWorth(0), 0);
    }

    private static void promise19Most() {
        sentence("Promise 19", "Returns the greatest WORTH");
        String sixteen = ";sack iron 1 999".repeat(16);
        MuleTrain t = loaded("train 0 0 0;mule a 16;mule b 15;mule c 300" + sixteen);
        due("bestWorth of 16 of 16", t.bestWorth(0), 15984);
        due("bestWorth of 15 of 16", t.bestWorth(1), 14985);
        due("bestWorth of 16 and much room", t.bestWorth(2), 15984);
        // Three times 99 and 3 are 300, and with 4 they would be 301.
        MuleTrain full = loaded("train 0 0 0;mule a 300;mule b 299;sack iron 99 50;sack iron 99 60;sack iron 99 70;sack iron 3 8;sack iron 4 9");
        due("bestWorth of 300", full.bestWorth(0), 188);
        due("bestWorth of 299", full.bestWorth(1), 180);
        // A sack is taken only once, even where it would go in again.
        MuleTrain once = loaded("train 0 0 0;mule a 300;sack iron 1 7");
        due("bestWorth of one sack", once.bestWorth(0), 7);
    }

    private static void promise19InTheStore() {
        sentence("Promise 19", "of sacks in the store");
        due("bestWorth without sacks", loaded("train 0 0 0;mule a 10").bestWorth(0), 0);
        MuleTrain zero = loaded("train 0 0 0;mule a 10;sack iron 1 0");
        due("bestWorth of WORTH 0", zero.bestWorth(0), 0);
        MuleTrain t = loaded("train 99 0 0;mule a 10;mule b 10;sack iron 1 1;sack iron 1 2;sack iron 10 4;sack iron 1 8;ford 9;pack 0 a left;trip;pack 1 a left;pack 2 b left");
        due("bestWorth of the last in the store", t.bestWorth(0), 8);
        due("bestWorth of a full mule", t.bestWorth(1), 0);
        t.unpack(2);
        due("bestWorth behind unpack", t.bestWorth(1), 8);
        t.unpack(1);
        due("bestWorth behind both", t.bestWorth(0), 10);
    }

    private static void promise19NoSuch() {
        sentence("Promise 19", "Throws `NoSuchElementException` if there is no such mule");
        noSuchMule("bestWorth", (t, mule) -> t.bestWorth(mule));
    }

    private static void promise20CanBePacked() {
        sentence("Promise 20", "of sacks that can be packed on it");
        MuleTrain t = loaded("train 99 0 0;mule a 10;mule b 11;sack iron 11 999;sack iron 10 1;sack iron 1 0");
        due("bestSack of 10", t.bestSack(0), 1);
        due("bestSack of 11", t.bestSack(1), 0);
        t.pack(1, 1, 0);
        due("bestSack of 10 without it", t.bestSack(0), 2);
        due("bestSack of 1 left", t.bestSack(1), 2);
        t.trip();
        due("bestSack behind the trip", t.bestSack(1), 0);
        due("bestSack of 10 behind the trip", t.bestSack(0), 2);
    }

    private static void promise20Fractions() {
        sentence("Promise 20", "the one with the greatest WORTH for its WEIGHT (compared as fractions)");
        // Each first one is the greater, most of them only behind the point.
        int[][] pairs = {{11, 10, 12, 11}, {1, 1, 98, 99}, {1, 98, 1, 99}, {98, 99, 97, 98}, {1, 99, 0, 1}, {999, 1, 998, 1}, {999, 98, 999, 99}};
        for (int[] each : pairs) {
            due("bestSack of " + each[0] + " / " + each[1] + " ahead", pair(each[0], each[1], each[2], each[3]), 0);
            due("bestSack of " + each[0] + " / " + each[1] + " behind", pair(each[2], each[3], each[0], each[1]), 1);
        }
    }

    private static int pair(int worth, int weight, int otherWorth, int otherWeight) {
        return loaded("train 0 0 0;mule a 300;sack iron " + weight + " " + worth + ";sack iron " + otherWeight + " " + otherWorth).bestSack(0);
    }

    private static void promise20SmallestNumber() {
        sentence("Promise 20", "of several the one with the smallest number");
        due("bestSack of 2 / 4 and 1 / 2", pair(2, 4, 1, 2), 0);
        due("bestSack of 1 / 2 and 2 / 4", pair(1, 2, 2, 4), 0);
        due("bestSack of 0 / 1 and 0 / 99", pair(0, 1, 0, 99), 0);
        due("bestSack of 0 / 99 and 0 / 1", pair(0, 99, 0, 1), 0);
        due("bestSack of 999 / 99 and 111 / 11", pair(999, 99, 111, 11), 0);
        due("bestSack of 111 / 11 and 999 / 99", pair(111, 11, 999, 99), 0);
        MuleTrain t = loaded("train 0 0 0;mule a 300" + ";sack iron 2 3".repeat(16));
        for (int sack = 0; sack < 16; sack++) {
            due("bestSack of those that are left", t.bestSack(0), sack);
            t.pack(sack, 0, 0);
        }
    }

    private static void promise20None() {
        sentence("Promise 20", "NONE if there is none");
        due("bestSack without sacks", loaded("train 0 0 0;mule a 10").bestSack(0), MuleTrain.NONE);
        due("bestSack of what is 1 too heavy", loaded("train 0 0 0;mule a 10;sack iron 11 9").bestSack(0), MuleTrain.NONE);
        due("bestSack of what is not too heavy", loaded("train 0 0 0;mule a 10;sack iron 10 0").bestSack(0), 0);
        MuleTrain t = loaded("train 0 0 0;mule a 10;sack iron 1 9;pack 0 a left");
        due("bestSack where all are on mules", t.bestSack(0), MuleTrain.NONE);
        MuleTrain never = tired(100, 0);
        never.addSack(0, 1, 7);
        due("bestSack where 0 is borne", never.bestSack(0), MuleTrain.NONE);
    }

    private static void promise20NoSuch() {
        sentence("Promise 20", "Throws `NoSuchElementException` if there is no such mule");
        noSuchMule("bestSack", (t, mule) -> t.bestSack(mule));
    }

    private static void promise21Sides() {
        sentence("Promise 21", "Returns the lighter side (0 or 1; 0 if both are alike).");
        MuleTrain t = loaded("train 99 0 0;mule a 300;sack iron 99 1;sack iron 98 1;sack iron 1 1;sack iron 1 1");
        due("lighter without sacks", t.lighter(0), 0);
        t.pack(0, 0, 0);
        due("lighter of 99 and 0", t.lighter(0), 1);
        t.pack(1, 0, 1);
        due("lighter of 99 and 98", t.lighter(0), 1);
        t.pack(2, 0, 1);
        due("lighter of 99 and 99", t.lighter(0), 0);
        t.pack(3, 0, 1);
        due("lighter of 99 and 100", t.lighter(0), 0);
        t.unpack(0);
        due("lighter of 0 and 100", t.lighter(0), 0);
    }

    private static void promise21NoSuch() {
        sentence("Promise 21", "Throws `NoSuchElementException` if there is no such mule");
        noSuchMule("lighter", (t, mule) -> t.lighter(mule));
    }

    private static void promise22Days() {
        sentence("Promise 22", "Returns behind how many days of rest TIRED of the mule is 0");
        int[][] due = {{1, 1, 1}, {1, 50, 1}, {2, 1, 2}, {49, 50, 1}, {50, 50, 1}, {51, 50, 2}, {100, 50, 2}, {99, 33, 3}, {100, 33, 4}, {98, 33, 3}, {100, 1, 100}, {99, 1, 99}};
        for (int[] each : due) {
            MuleTrain t = tired(each[0], each[1]);
            due("freshIn of TIRED " + each[0] + ", EASE " + each[1], t.freshIn(0), each[2]);
            if (each[2] > 1 && each[2] < 99) {
                due("TIRED a day before is not 0", t.rest(each[2] - 1) > 0 ? 1 : 0, 1);
                due("freshIn a day before", t.freshIn(0), 1);
            }
        }
    }

    private static void promise22Fresh() {
        sentence("Promise 22", "0 if it is");
        due("freshIn of TIRED 0, EASE 50", tired(0, 50).freshIn(0), 0);
        due("freshIn of TIRED 0, EASE 1", tired(0, 1).freshIn(0), 0);
        due("freshIn of TIRED 0, EASE 0", tired(0, 0).freshIn(0), 0);
    }

    private static void promise22Never() {
        sentence("Promise 22", "NONE if EASE is 0 and it is not");
        due("freshIn of TIRED 1, EASE 0", tired(1, 0).freshIn(0), MuleTrain.NONE);
        due("freshIn of TIRED 100, EASE 0", tired(100, 0).freshIn(0), MuleTrain.NONE);
    }

    private static void promise22NoSuch() {
        sentence("Promise 22", "Throws `NoSuchElementException` if there is no such mule");
        noSuchMule("freshIn", (t, mule) -> t.freshIn(mule));
    }

    private static void promise23Depths() {
        sentence("Promise 23", "Returns the greatest depth (1 to 9) of a ford at which the mule, as it is now, would lose no sack");
        for (int depth = 1; depth <= 9; depth++) {
            int limit = 10 * (10 - depth);
            due("deepest with " + limit + " of 100", deepest(100, limit), depth);
            due("deepest with " + (limit + 1) + " of 100", deepest(100, limit + 1), depth - 1);
            MuleTrain ford = loaded("train 99 0 0;mule a 100;sack iron " + limit + " 1;ford " + depth + ";pack 0 a left");
            due("fate at the deepest", ford.fate(0), 1);
            if (depth < 9) {
                ford.dropStage(0);
                ford.addStage(1, depth + 1);
                due("fate at 1 deeper", ford.fate(0), 3);
            }
        }
        // 19 * 1 / 10 = 1, 19 * 2 / 10 = 3, 19 * 9 / 10 = 17.
        due("deepest with 1 of 19", deepest(19, 1), 9);
        due("deepest with 2 of 19", deepest(19, 2), 8);
        due("deepest with 3 of 19", deepest(19, 3), 8);
        due("deepest with 17 of 19", deepest(19, 17), 1);
        due("deepest with 18 of 19", deepest(19, 18), 0);
    }

    private static int deepest(int strength, int load) {
        return loaded("train 99 0 0;mule a " + strength + ";sack iron " + load + " 1;pack 0 a left").deepest(0);
    }

    private static void promise23AsItIsNow() {
        sentence("Promise 23", "as it is now");
        // The way, TILT and the other mule do not count, but TIRED does: 10 of 100 is borne with TIRED 90.
        MuleTrain t = loaded("train 0 0 0;mule a 100;mule b 100;sack iron 10 1;sack iron 90 1;road 99;ford 9;pack 0 a left;pack 1 b left");
        due("deepest of a mule that is not LEVEL", t.deepest(0), 9);
        due("deepest of the other", t.deepest(1), 1);
        MuleTrain tired = tired(90, 0);
        tired.addSack(0, 1, 1);
        tired.addSack(0, 1, 1);
        tired.pack(1, 0, 0);
        due("deepest with 1 of 10", tired.deepest(0), 9);
        tired.pack(2, 0, 0);
        due("deepest with 2 of 10", tired.deepest(0), 8);
    }

    private static void promise23WithoutSacks() {
        sentence("Promise 23", "(9 without sacks)");
        due("deepest of the weakest", loaded("train 0 0 0;mule a 10").deepest(0), 9);
        due("deepest of the strongest", loaded("train 0 0 0;mule a 300").deepest(0), 9);
        due("deepest with TIRED 100", tired(100, 0).deepest(0), 9);
        due("deepest with TIRED 99", tired(99, 0).deepest(0), 9);
    }

    private static void promise23None() {
        sentence("Promise 23", "0 if there is none");
        due("deepest of a full mule", deepest(10, 10), 0);
        due("deepest with 9 of 10", deepest(10, 9), 1);
        due("deepest with 91 of 100", deepest(100, 91), 0);
        MuleTrain tired = tired(99, 0);
        tired.addSack(0, 1, 1);
        tired.pack(1, 0, 0);
        due("deepest with 1 of 1", tired.deepest(0), 0);
    }

    private static void promise23NoSuch() {
        sentence("Promise 23", "Throws `NoSuchElementException` if there is no such mule");
        noSuchMule("deepest", (t, mule) -> t.deepest(mule));
    }

    private static void promise24Divided() {
        sentence("Promise 24", "Returns the WORTH of all sacks on mules as a double, divided by their WEIGHT together as a double");
        due("worthOfLoads() of 999 / 1", worthOfLoads("sack iron 1 999;pack 0 a left"), 999.0);
        due("worthOfLoads() of 1 / 99", worthOfLoads("sack iron 99 1;pack 0 f left"), 1.0 / 99.0);
        due("worthOfLoads() of 0 / 99", worthOfLoads("sack iron 99 0;pack 0 f left"), 0.0);
        due("worthOfLoads() of 2 / 3", worthOfLoads("sack iron 1 0;sack iron 2 2;sack iron 9 9;pack 0 a left;pack 1 f right"), 2.0 / 3.0);
        MuleTrain t = loaded("train 0 0 0;mule a 300" + ";sack iron 18 999".repeat(16));
        t.fill(0);
        due("worthOfLoads() of all", t.worthOfLoads(), 15984.0 / 288.0);
    }

    private static double worthOfLoads(String lines) {
        return loaded(TILTED + SIX_MULES + ";" + lines).worthOfLoads();
    }

    private static void promise24None() {
        sentence("Promise 24", "0.0 if there are none");
        due("worthOfLoads() without mules", loaded("train 0 0 0;sack iron 1 1").worthOfLoads(), 0.0);
        due("worthOfLoads() of the store", worthOfLoads("sack iron 1 1"), 0.0);
        due("worthOfLoads() behind a trip", worthOfLoads("sack iron 1 1;pack 0 a left;trip"), 0.0);
        due("worthOfLoads() without anything", loaded("train 0 0 0").worthOfLoads(), 0.0);
    }

    private static void promise25Divided() {
        sentence("Promise 25", "Returns LOAD as a float, divided by what it BEARS as a float");
        due("filled of 1 / 300", filled(300, 1), 1.0f / 300.0f);
        due("filled of 99 / 100", filled(100, 99), 99.0f / 100.0f);
        due("filled of 10 / 10", filled(10, 10), 1.0f);
        due("filled of 9 / 10", filled(10, 9), 0.9f);
        MuleTrain t = tired(99, 0);
        t.addSack(0, 1, 1);
        t.pack(1, 0, 0);
        due("filled of 1 / 1", t.filled(0), 1.0f);
        MuleTrain part = tired(97, 0);
        part.addSack(0, 1, 1);
        part.pack(1, 0, 0);
        due("filled of 1 / 3", part.filled(0), 1.0f / 3.0f);
    }

    private static float filled(int strength, int load) {
        return loaded("train 99 0 0;mule a " + strength + ";sack iron " + load + " 1;pack 0 a left").filled(0);
    }

    private static void promise25Zero() {
        sentence("Promise 25", "0.0f if this is 0");
        due("filled of 0 / 0", tired(100, 0).filled(0), 0.0f);
        due("filled of 0 / 1", tired(99, 0).filled(0), 0.0f);
        due("filled of 0 / 10", loaded("train 0 0 0;mule a 10").filled(0), 0.0f);
        due("filled of 0 / 300", loaded("train 0 0 0;mule a 300").filled(0), 0.0f);
    }

    private static void promise25NoSuch() {
        sentence("Promise 25", "Throws `NoSuchElementException` if there is no such mule");
        noSuchMule("filled", (t, mule) -> t.filled(mule));
    }
}
