/** What the document says plainly, at no boundary: by the new train, with numbers that were reckoned by hand. */
final class BoundaryPlain extends Boundary {
    static void run() {
        whatItIs();
        numberOfCalls();
        section3Settings();
        section4MulesThatGo();
        promise6Numbers();
        promise7Setting();
        promise8Numbers();
        promise9Numbers();
        promise11Numbers();
        promise12Numbers();
        promise14Reasons();
        promise15Numbers();
        promise17Fates();
        promise20Best();
        promise26Packs();
        promise27PutsBack();
        promise29PutsOnTheOtherSide();
        promise30MakesATrip();
        promise31Rests();
        promise32AddsASack();
        promise33AddsAStage();
        promise39Writes();
    }

    private static void numbers(String call, double[] due, OfNumber asked) {
        for (int what = 0; what < due.length; what++) {
            due(call + " of " + what, asked.answer(what), due[what]);
        }
    }

    private static void whatItIs() {
        sentence("What it is", "A quartermaster who packs mules by worth and weight: sacks of four kinds, mules with two sides that bear less as they are tired, a way of roads, fords and camps, "
            + "trips on which mules shed what they cannot bear, sacks that get wet and glass that breaks, money and wages, sacks that are chosen by worth and weight, "
            + "what a mule could bear best, reasons with causes, what a trip would bring, descriptions with errors, undo, saved states.");
        MuleTrain t = new MuleTrain();
        due("save(1)", t.save(1), 1);
        due("trip()", t.trip(), 149);
        // Jen bears 88 of 100 with TIRED 12, and of 25 for 20 and 50 for 30 the first is better for its WEIGHT.
        due("what jen BEARS", t.mule(0, 2), 88);
        due("bestWorth(0)", t.bestWorth(0), 50);
        due("bestSack(0)", t.bestSack(0), 4);
        due("fill(0)", t.fill(0), 2);
        due("whyNoTrip(0), as 25 and 50 are not LEVEL", t.whyNoTrip(0), 2);
        due("whyNoTrip(1)", t.whyNoTrip(1), 0);
        // The road makes it tired by 40 * (7 + 1) / 10: it bears 56 and sheds sack 4; the ford lets 28 through.
        due("tripBrings()", t.tripBrings(), -3);
        due("fate(2)", t.fate(2), 3);
        due("fate(4)", t.fate(4), 3);
        due("tiredBy(0)", t.tiredBy(0), 36);
        due("undo() of fill(0)", t.undo(), 1);
        due("sacks in the store", t.value(2), 2);
        due("restore(1)", t.restore(1), 0);
        due("MONEY behind it", t.value(8), 0);
        thrown(STATE, "load of a mule that there is", () -> Check.load(t, "train 20 10 3; mule jen 100; mule jen 60"));
        due("errorCode()", t.errorCode(), 4);
        due("errorPosition()", t.errorPosition(), 34);
    }

    private static void numberOfCalls() {
        sentence("What it is", "An object is used for at most 512 calls after it has been made; what later calls answer is free.");
        MuleTrain t = new MuleTrain();
        for (int call = 1; call < 512; call++) {
            due("rest(1), call " + call, t.rest(1), 0);
        }
        due("DAY, asked by the 512th call", t.value(7), 511);
    }

    private static void section3Settings() {
        sentence("Section 3", "The settings are numbered: 0 TILT (0 to 99), 1 EASE (0 to 50), 2 WAGE (0 to 50).");
        // TILT decides whether the mules are LEVEL, EASE how tired they are behind a camp, WAGE what they cost.
        MuleTrain t = new MuleTrain();
        t.set(0, 19);
        due("LEVEL with TILT 19", t.mule(0, 7), 0);
        t.set(0, 20);
        due("LEVEL with TILT 20", t.mule(0, 7), 1);
        t.set(1, 20);
        due("tiredBy(0) with EASE 20", t.tiredBy(0), 4);
        t.set(2, 10);
        due("tripBrings() with WAGE 10", t.tripBrings(), 135);
    }

    private static void section4MulesThatGo() {
        sentence("Section 4", "The stages are gone through in their order; at each one the mules that go, by numbers:");
        MuleTrain t = loaded("train 99 0 0;mule a 100;mule b 50;mule c 20;sack grain 10 8;sack grain 10 8;ford 5;road 10;pack 0 c left;pack 1 a left");
        due("trip()", t.trip(), 8);
        due("TIRED of the first", t.mule(0, 1), 10 * (10 * 10 / 100 + 1) / 10);
        due("TIRED of one without sacks", t.mule(1, 1), 0);
        due("TIRED of the last", t.mule(2, 1), 10 * (10 * 10 / 20 + 1) / 10);
        due("sacks that got wet", t.count(6), 2);
        // The ford lets 10 of 20 through, and behind the road the last one bears 18: nothing is lost.
        due("sacks that were delivered", t.value(4), 2);
    }

    private static MuleTrain behindATrip() {
        MuleTrain train = new MuleTrain();
        due("trip()", train.trip(), 149);
        return train;
    }

    private static void promise6Numbers() {
        sentence("Promise 6", "Returns this number.");
        sentence("Promise 6", "6 stages, 7 DAY, 8 MONEY, 9 miles of all roads together");
        MuleTrain first = new MuleTrain();
        numbers("value at first", new double[] {2, 5, 2, 3, 0, 0, 3, 0, 0, 40, 0}, what -> first.value(what));
        MuleTrain gone = behindATrip();
        numbers("value behind a trip", new double[] {2, 5, 2, 0, 3, 0, 3, 1, 149, 40, 1}, what -> gone.value(what));
    }

    private static void promise7Setting() {
        sentence("Promise 7", "Returns this setting.");
        MuleTrain t = new MuleTrain();
        numbers("setting", new double[] {20, 10, 3}, which -> t.setting(which));
        t.set(1, 50);
        numbers("setting behind set(1, 50)", new double[] {20, 50, 3}, which -> t.setting(which));
    }

    private static void promise8Numbers() {
        sentence("Promise 8", "Returns this number, since the latest load()");
        MuleTrain t = behindATrip();
        numbers("count behind a trip", new double[] {1, 155, 0, 35, 0, 6, 3}, what -> t.count(what));
    }

    private static void promise9Numbers() {
        sentence("Promise 9", "Returns this number.");
        MuleTrain first = new MuleTrain();
        numbers("mule(0, ..)", new double[] {100, 0, 100, 40, 30, 10, 2, 1, 130, 3}, what -> first.mule(0, what));
        numbers("mule(1, ..)", new double[] {60, 0, 60, 20, 20, 0, 1, 1, 60, 4}, what -> first.mule(1, what));
        MuleTrain gone = behindATrip();
        numbers("mule(0, ..) behind a trip", new double[] {100, 12, 88, 0, 0, 0, 0, 1, 0, 3}, what -> gone.mule(0, what));
        numbers("mule(1, ..) behind a trip", new double[] {60, 8, 55, 0, 0, 0, 0, 1, 0, 4}, what -> gone.mule(1, what));
    }

    private static void promise11Numbers() {
        sentence("Promise 11", "Returns this number.");
        MuleTrain first = new MuleTrain();
        numbers("sack(0, ..)", new double[] {0, 30, 40, 1, 0, 0, -1, 40}, what -> first.sack(0, what));
        numbers("sack(2, ..)", new double[] {2, 50, 30, 0, -1, -1, -1, 30}, what -> first.sack(2, what));
        MuleTrain gone = behindATrip();
        numbers("sack(0, ..) behind a trip", new double[] {0, 30, 20, 2, -1, -1, 0, 40}, what -> gone.sack(0, what));
        numbers("sack(1, ..) behind a trip", new double[] {1, 20, 45, 2, -1, -1, 0, 60}, what -> gone.sack(1, what));
    }

    private static void promise12Numbers() {
        sentence("Promise 12", "Returns this number.");
        MuleTrain t = new MuleTrain();
        numbers("stage(0, ..)", new double[] {0, 40}, what -> t.stage(0, what));
        numbers("stage(1, ..)", new double[] {1, 5}, what -> t.stage(1, what));
        numbers("stage(2, ..)", new double[] {2, 8}, what -> t.stage(2, what));
    }

    private static void promise14Reasons() {
        sentence("Promise 14", "Returns why it cannot be packed on this mule:");
        MuleTrain t = new MuleTrain();
        numbers("whyNot(.., 0)", new double[] {1, 1, 0, 1, 0}, sack -> t.whyNot(sack, 0));
        numbers("whyNot(.., 1)", new double[] {1, 1, 2, 1, 0}, sack -> t.whyNot(sack, 1));
    }

    private static void promise15Numbers() {
        sentence("Promise 15", "Returns this number.");
        MuleTrain t = new MuleTrain();
        numbers("whyNoTrip", new double[] {0, -1}, depth -> t.whyNoTrip(depth));
        t.pack(4, 1, 0);
        numbers("whyNoTrip with 45 on one side of moll", new double[] {2, 1}, depth -> t.whyNoTrip(depth));
        MuleTrain gone = behindATrip();
        numbers("whyNoTrip behind a trip", new double[] {1, -1}, depth -> gone.whyNoTrip(depth));
    }

    private static void promise17Fates() {
        sentence("Promise 17", "Returns what a trip now would do to this sack:");
        MuleTrain t = new MuleTrain();
        numbers("fate", new double[] {2, 2, 0, 1, 0}, sack -> t.fate(sack));
        // With 45 on it, moll bears 40 behind the road: the sack of WORTH 20 is lost, and the ford lets 20 through.
        t.pack(4, 1, 1);
        numbers("fate with sack 4 on moll", new double[] {2, 2, 0, 1, 3}, sack -> t.fate(sack));
    }

    private static void promise20Best() {
        sentence("Promise 20", "Returns the sack that is best for it:");
        MuleTrain t = new MuleTrain();
        numbers("bestSack", new double[] {4, 4}, mule -> t.bestSack(mule));
        t.addSack(3, 1, 1);
        numbers("bestSack with 1 for 1", new double[] {5, 5}, mule -> t.bestSack(mule));
    }

    private static void promise26Packs() {
        sentence("Promise 26", "Packs a sack on a side of a mule.");
        MuleTrain t = new MuleTrain();
        due("pack(4, 1, 1)", t.pack(4, 1, 1), 45);
        numbers("sack(4, ..)", new double[] {0, 25, 20, 1, 1, 1, -1, 20}, what -> t.sack(4, what));
        numbers("mule(1, ..)", new double[] {60, 0, 60, 45, 20, 25, 2, 1, 80, 4}, what -> t.mule(1, what));
    }

    private static void promise27PutsBack() {
        sentence("Promise 27", "Puts a sack back into the store.");
        MuleTrain t = new MuleTrain();
        due("unpack(0)", t.unpack(0), 10);
        numbers("sack(0, ..)", new double[] {0, 30, 40, 0, -1, -1, -1, 40}, what -> t.sack(0, what));
        numbers("mule(0, ..)", new double[] {100, 0, 100, 10, 0, 10, 1, 1, 90, 3}, what -> t.mule(0, what));
    }

    private static void promise29PutsOnTheOtherSide() {
        sentence("Promise 29", "Puts a sack on the other side of its mule.");
        MuleTrain t = new MuleTrain();
        due("shift(0)", t.shift(0), 40);
        numbers("sack(0, ..)", new double[] {0, 30, 40, 1, 0, 1, -1, 40}, what -> t.sack(0, what));
        numbers("mule(0, ..)", new double[] {100, 0, 100, 40, 0, 40, 2, 0, 130, 3}, what -> t.mule(0, what));
        due("shift(0) back", t.shift(0), 20);
        due("side of 0", t.sack(0, 5), 0);
    }

    private static void promise30MakesATrip() {
        sentence("Promise 30", "Makes a trip.");
        MuleTrain t = behindATrip();
        due("DAY", t.value(7), 1);
        due("MONEY", t.value(8), 149);
        due("TIRED of jen", t.mule(0, 1), 12);
        due("TIRED of moll", t.mule(1, 1), 8);
        numbers("WORTH behind it", new double[] {20, 45, 30, 90, 20}, sack -> t.sack(sack, 2));
        numbers("PLACE behind it", new double[] {2, 2, 0, 2, 0}, sack -> t.sack(sack, 3));
    }

    private static void promise31Rests() {
        sentence("Promise 31", "Rests.");
        MuleTrain t = behindATrip();
        due("rest(1), from 12 and 8 with EASE 10", t.rest(1), 2);
        due("TIRED of jen", t.mule(0, 1), 2);
        due("TIRED of moll", t.mule(1, 1), 0);
        due("DAY", t.value(7), 2);
        due("MONEY", t.value(8), 149);
    }

    private static void promise32AddsASack() {
        sentence("Promise 32", "Adds a sack.");
        MuleTrain t = new MuleTrain();
        due("addSack(1, 33, 444)", t.addSack(1, 33, 444), 5);
        numbers("sack(5, ..)", new double[] {1, 33, 444, 0, -1, -1, -1, 444}, what -> t.sack(5, what));
        due("sacks", t.value(1), 6);
        due("sacks in the store", t.value(2), 3);
    }

    private static void promise33AddsAStage() {
        sentence("Promise 33", "Adds a stage behind the others.");
        MuleTrain t = new MuleTrain();
        due("addStage(0, 60)", t.addStage(0, 60), 3);
        Check.output("writeWay()", t, t.writeWay(), "road40 ford5 camp8 road60");
        due("miles", t.value(9), 100);
    }

    private static void promise39Writes() {
        sentence("Promise 39", "replacing its content: the name, a colon (byte 58), the numbers of the sacks on the left side");
        MuleTrain t = new MuleTrain();
        Check.output("writeMule(0)", t, t.writeMule(0), "jen:0|3=40");
        Check.output("writeMule(1)", t, t.writeMule(1), "moll:1|=20");
    }
}
