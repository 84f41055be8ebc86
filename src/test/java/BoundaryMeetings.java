/** Where two sentences of the document meet: undo and restore, loads, counts of a text's lines, trips that cannot begin. */
final class BoundaryMeetings extends Boundary {
    /** Its trip makes tired, loses on a road and in a ford, breaks glass, wets each kind and lets a mule without sacks go on. */
    private static final String ROUGH = "train 99 5 9;mule ann 100;mule bea 50;mule cat 60;mule dot 30;sack iron 60 7;sack grain 9 81;sack glass 9 90;sack cloth 1 33;"
        + "sack iron 50 1;sack grain 10 3;sack glass 7 70;ford 5;road 30;camp 7;ford 2;pack 0 ann left;pack 1 ann right;pack 2 ann right;pack 3 ann left;pack 4 cat left;pack 5 dot left";
    private static final int ROUGH_SACKS = 7;
    private static final int ROUGH_MULES = 4;

    static void run() {
        undoAndRestoreOfRows();
        undoAndRestoreOfCounts();
        undoAndBuffers();
        restoreAndBuffers();
        undoBehindAnError();
        undoAndWhatIsSaved();
        restoreAsAChange();
        restoreAndWhatItBears();
        fillAsOneChange();
        loadAndEverything();
        loadAndTheRestOfTheBuffer();
        errorAndEverything();
        errorAndTheNextText();
        errorAndWhatWouldBe();
        linesAndCounts();
        linesAndDays();
        predictionsAndTrip();
        predictionsOfAnUnlevelTrip();
        predictionsOnTheLastDay();
        predictionsWithoutSacks();
        predictionsBehindUndo();
        deepestAndFord();
        freshInAndRest();
        whyNotAndPack();
        whyNoTripAndTrip();
        bestAndFill();
        lighterAndShift();
    }

    private static void undoAndRestoreOfRows() {
        meeting("Promise 36", "Makes everything that undo() brings back what it was at the latest save() with this slot.", "Promise 37", "Undoes the latest change that was not undone.");
        MuleTrain t = new MuleTrain();
        t.save(0);
        t.addSack(3, 9, 99);
        t.pack(5, 0, 1);
        t.dropStage(1);
        t.addStage(0, 7);
        t.set(1, 0);
        due("restore(0)", t.restore(0), 0);
        thrown(NO_SUCH, "sack(5, 0), which was added behind save(0)", () -> t.sack(5, 0));
        thrown(NO_SUCH, "whyNot(5, 0)", () -> t.whyNot(5, 0));
        due("kind of stage 1", t.stage(1, 0), 1);
        due("miles", t.value(9), 40);
        due("EASE", t.setting(1), 10);
        due("LOAD", t.mule(0, 3), 40);
        due("undo() of restore(0)", t.undo(), 5);
        due("PLACE of sack 5", t.sack(5, 3), 1);
        due("kind of stage 1", t.stage(1, 0), 2);
        due("miles", t.value(9), 47);
        due("EASE", t.setting(1), 0);
        due("LOAD", t.mule(0, 3), 49);
        due("addSack behind it", t.addSack(0, 1, 1), 6);
    }

    private static void undoAndRestoreOfCounts() {
        meeting("Promise 8", "Returns this number, since the latest load() that replaced everything (with the lines of the text).", "Section 5", "each undo brings everything back to what it was before the change");
        MuleTrain t = loaded(ROUGH);
        t.save(1);
        t.trip();
        int[] behind = counts(t);
        due("trips", behind[0], 1);
        due("restore(1)", t.restore(1), 0);
        sameCounts("restore(1)", t, new int[7]);
        t.undo();
        sameCounts("undo() of restore(1)", t, behind);
        t.undo();
        sameCounts("undo() of trip()", t, new int[7]);
        t.trip();
        sameCounts("the trip again", t, behind);
    }

    private static int[] counts(MuleTrain t) {
        int[] counts = new int[7];
        for (int what = 0; what < counts.length; what++) {
            counts[what] = t.count(what);
        }
        return counts;
    }

    private static void sameCounts(String what, MuleTrain t, int[] due) {
        for (int count = 0; count < due.length; count++) {
            due("count(" + count + ") behind " + what, t.count(count), due[count]);
        }
        due("gap() behind " + what, t.gap(), 0);
    }

    private static void undoAndBuffers() {
        meeting("Section 5", "except for the buffers, errorCode() and errorPosition() and what is saved", "Promise 41", "Returns the byte at that index.");
        MuleTrain t = new MuleTrain();
        t.pack(2, 0, 1);
        int length = t.writeMule(0);
        due("feed", t.feed(1, 2, 3, 4, 5), 20);
        t.undo();
        Check.output("the sack that is on no mule any more", t, length, "jen:0|2,3=90");
        due("feed behind undo()", t.feed(1, 2, 3, 4, 5), 40);
        t.dropStage(0);
        length = t.writeWay();
        t.undo();
        Check.output("the way that was undone", t, length, "ford5 camp8");
        thrown(STATE, "load(40)", () -> t.load(40));
        due("errorPosition() of the byte 0", t.errorPosition(), 0);
    }

    private static void restoreAndBuffers() {
        meeting("Promise 36", "Makes everything that undo() brings back what it was", "Section 5", "except for the buffers, errorCode() and errorPosition() and what is saved");
        MuleTrain t = new MuleTrain();
        t.save(0);
        t.rest(2);
        t.save(1);
        thrown(STATE, "load of a RANGE error", () -> Check.load(t, "train 0 0 0;ford 10"));
        due("feed", t.feed(0x74726169, 0x6e203720, 0x38203920, 0x20202020, 0x20202020), 20);
        t.trip();
        int length = t.writeMule(0);
        due("restore(0)", t.restore(0), 0);
        Check.output("the output behind restore(0)", t, length, "jen:|=0");
        due("errorCode() behind restore(0)", t.errorCode(), 2);
        due("errorPosition() behind restore(0)", t.errorPosition(), 17);
        due("restore(1) behind restore(0)", t.restore(1), 2);
        due("save(0) behind both", t.save(0), 2);
        due("load of what was fed before them", t.load(20), 0);
        due("EASE", t.setting(1), 8);
    }

    private static void undoBehindAnError() {
        meeting("Promise 37", "Undoes the latest change that was not undone.", "Promise 3", "Throws `IllegalStateException` if the text has an error; then only the input buffer, errorCode() and errorPosition() change");
        MuleTrain t = new MuleTrain();
        String first = Check.all(t);
        t.trip();
        t.fill(0);
        thrown(STATE, "load of an error behind a trip of its own", () -> Check.load(t, ROUGH + ";trip;rest 9;trap"));
        due("changes behind it", t.value(10), 2);
        due("undo() of fill(0)", t.undo(), 1);
        due("MONEY", t.value(8), 149);
        due("undo() of trip()", t.undo(), 0);
        same("undo() of all", first, t);
        due("errorCode()", t.errorCode(), 1);
        due("errorPosition()", t.errorPosition(), (ROUGH + ";trip;rest 9;").length());
    }

    private static void undoAndWhatIsSaved() {
        meeting("Promise 38", "This is not a change and is not undone.", "Promise 37", "Undoes the latest change that was not undone.");
        MuleTrain t = new MuleTrain();
        t.trip();
        t.rest(1);
        String saved = Check.all(t);
        t.save(0);
        t.undo();
        t.undo();
        due("DAY", t.value(7), 0);
        due("restore(0) of what was undone", t.restore(0), 2);
        same("restore(0)", saved, t);
        due("undo() of restore(0)", t.undo(), 0);
        due("DAY behind it", t.value(7), 0);
        thrown(STATE, "undo() of nothing more", () -> t.undo());
        due("save(1), as slot 0 stays saved", t.save(1), 2);
    }

    private static void restoreAsAChange() {
        meeting("Section 5", "The latest 10 changes can be undone", "Promise 36", "It stays saved.");
        MuleTrain t = new MuleTrain();
        t.rest(1);
        t.save(0);
        for (int times = 1; times <= 6; times++) {
            t.rest(times);
            due("restore(0)", t.restore(0), 1);
        }
        due("changes of 13", t.value(10), 10);
        for (int left = 9; left >= 0; left--) {
            due("undo()", t.undo(), left);
            // Each odd one brings back the rest behind restore(0), each even one what restore(0) made.
            due("DAY", t.value(7), left % 2 == 1 ? 1 + (left + 3) / 2 : 1);
        }
        thrown(STATE, "undo() of the 11th", () -> t.undo());
        due("restore(0) at last", t.restore(0), 1);
    }

    private static void restoreAndWhatItBears() {
        meeting("Terms", "No mule carries more than it bears.", "Promise 36", "Makes everything that undo() brings back what it was at the latest save() with this slot.");
        MuleTrain t = loaded("train 99 0 0;mule a 100;sack iron 90 1;sack iron 10 1;road 99;road 99;pack 0 a left");
        t.save(0);
        t.trip();
        due("what it BEARS behind the trip", t.mule(0, 2), 0);
        due("fill(0)", t.fill(0), 0);
        t.restore(0);
        due("what it BEARS behind restore(0)", t.mule(0, 2), 100);
        due("LOAD behind restore(0)", t.mule(0, 3), 90);
        due("gap()", t.gap(), 0);
        due("fill(0) behind restore(0)", t.fill(0), 1);
        due("filled(0)", t.filled(0), 1);
    }

    private static void fillAsOneChange() {
        meeting("Promise 28", "Returns how many sacks were packed.", "Promise 37", "Returns how many changes can still be undone.");
        MuleTrain t = loaded("train 0 0 0;mule a 300" + ";sack iron 1 1".repeat(16));
        due("fill(0)", t.fill(0), 16);
        due("changes", t.value(10), 1);
        due("undo()", t.undo(), 0);
        due("sacks in the store", t.value(2), 16);
        due("LOAD", t.mule(0, 3), 0);
    }

    private static void loadAndEverything() {
        meeting("Promise 3", "Without an error, it replaces everything; no change can be undone, and nothing is saved; only the output buffer stays.", "Promise 5", "-1 if there is none");
        MuleTrain t = loaded(ROUGH + ";trip");
        t.save(0);
        t.save(1);
        t.set(0, 1);
        thrown(STATE, "load of an error", () -> Check.load(t, "mule"));
        due("errorPosition()", t.errorPosition(), 0);
        int length = t.writeMule(3);
        due("load", Check.load(t, "train 1 2 3;mule dot 40"), 0);
        due("errorCode()", t.errorCode(), 0);
        due("errorPosition()", t.errorPosition(), -1);
        same("load", Check.all(loaded("train 1 2 3;mule dot 40")), t);
        Check.output("the output of before", t, length, "dot:|=0");
        thrown(STATE, "undo()", () -> t.undo());
        thrown(STATE, "restore(0)", () -> t.restore(0));
        thrown(STATE, "restore(1)", () -> t.restore(1));
        thrown(NO_SUCH, "sack(0, 0)", () -> t.sack(0, 0));
        thrown(NO_SUCH, "mule(1, 0)", () -> t.mule(1, 0));
        thrown(NO_SUCH, "stage(0, 0)", () -> t.stage(0, 0));
        due("feed, as the input buffer is empty", t.feed(1, 2, 3, 4, 5), 20);
    }

    private static void loadAndTheRestOfTheBuffer() {
        meeting("Promise 3", "Parses the first length bytes of the buffer as a description.", "Promise 3", "The input buffer is emptied unless an IllegalArgumentException is thrown.");
        MuleTrain t = new MuleTrain();
        Check.feedBytes(t, Check.bytesOf("train 4 5 6;mule a 10;road 10;camp 3"));
        due("load of the head", t.load(11), 0);
        due("mules", t.value(0), 0);
        thrown(ARGUMENT, "load(25) of what is behind it", () -> t.load(25));
        thrown(STATE, "load(0)", () -> t.load(0));
        due("errorPosition()", t.errorPosition(), 0);
        due("WAGE", t.setting(2), 6);
    }

    private static void errorAndEverything() {
        meeting("Promise 3", "then only the input buffer, errorCode() and errorPosition() change", "Promise 36", "It stays saved.");
        MuleTrain t = new MuleTrain();
        t.save(0);
        t.trip();
        t.save(1);
        String before = Check.all(t);
        int length = t.writeWay();
        String[] errors = {";rest 0", ";trip", ";mule ann 50", ";pack 5 ann left", ";pack 6 bob left", ";mule a 10;mule b 10;mule c 10", ";"};
        int[] codes = {2, 6, 4, 6, 3, 5, 1};
        for (int each = 0; each < errors.length; each++) {
            String text = ROUGH + ";trip" + errors[each];
            thrown(STATE, "load of " + text, () -> Check.load(t, text));
            due("errorCode() of " + text, t.errorCode(), codes[each]);
        }
        same("loads with errors", before, t);
        Check.output("the output", t, length, "road40 ford5 camp8");
        due("undo()", t.undo(), 0);
        due("restore(1)", t.restore(1), 1);
        due("restore(0)", t.restore(0), 0);
        thrown(ARGUMENT, "load(1), as the input buffer is empty", () -> t.load(1));
    }

    private static void errorAndTheNextText() {
        meeting("Promise 3", "Throws `IllegalStateException` if the text has an error", "Promise 3", "Without an error, it replaces everything");
        String due = Check.all(loaded(ROUGH));
        for (String error : new String[] {"train 50 50 50;mule ann 300;trip", "train 50 50 50;mule ann 10;sack glass 1 999;ford 9;pack 0 ann right;trip;rest 99;trip", "train 5 5", ROUGH + ";trip;a"}) {
            MuleTrain t = new MuleTrain();
            thrown(STATE, "load of " + error, () -> Check.load(t, error));
            due("load behind " + error, Check.load(t, ROUGH), ROUGH_SACKS);
            same("load behind " + error, due, t);
            due("errorCode()", t.errorCode(), 0);
        }
    }

    private static void errorAndWhatWouldBe() {
        meeting("Promise 3", "then only the input buffer, errorCode() and errorPosition() change", "Promise 16", "Returns how much MONEY would become more by a trip now");
        MuleTrain t = new MuleTrain();
        thrown(STATE, "load of an error", () -> Check.load(t, ROUGH + ";trip;a"));
        due("tripBrings()", t.tripBrings(), 149);
        due("fate(0)", t.fate(0), 2);
        due("tiredBy(0)", t.tiredBy(0), 12);
        due("bestSack(0)", t.bestSack(0), 4);
        due("trip()", t.trip(), 149);
        // What would be, asked before a load, is not left over in what is loaded.
        t.tripBrings();
        Check.load(t, ROUGH);
        due("DAY", t.value(7), 0);
        due("TIRED", t.mule(0, 1), 0);
        due("trips", t.count(0), 0);
    }

    private static void linesAndCounts() {
        meeting("Promise 8", "(with the lines of the text)", "Section 6", "\"trip\" makes a trip");
        MuleTrain lines = loaded(ROUGH + ";trip;rest 2;pack 6 bea left;trip");
        MuleTrain calls = loaded(ROUGH);
        calls.trip();
        calls.rest(2);
        calls.pack(6, 1, 0);
        calls.trip();
        same("lines in place of calls", Check.all(calls), lines);
        due("changes of calls", calls.value(10), 4);
        due("changes of lines", lines.value(10), 0);
        int[] behind = counts(lines);
        due("trips", behind[0], 2);
        lines.addSack(0, 1, 500);
        lines.pack(ROUGH_SACKS, 1, 1);
        lines.set(2, 50);
        lines.trip();
        due("trips of lines and calls", lines.count(0), 3);
        due("wages of lines and calls", lines.count(5), behind[5] + 50);
        due("gap()", lines.gap(), 0);
        for (int times = 0; times < 4; times++) {
            lines.undo();
        }
        sameCounts("undo() of the calls", lines, behind);
        thrown(STATE, "undo() of the lines", () -> lines.undo());
    }

    private static void linesAndDays() {
        meeting("Promise 11", "6 the DAY on which it was delivered or lost (as the trip began; NONE if it was neither)", "Section 6", "All is done in the order of the lines.");
        MuleTrain t = loaded("train 99 0 0;mule a 100;sack iron 90 1;sack iron 10 2;sack iron 1 2;rest 4;pack 0 a left;ford 9;pack 1 a right;trip;rest 10;pack 2 a left;trip");
        due("DAY of a lost one", t.sack(0, 6), 4);
        due("PLACE of a lost one", t.sack(0, 3), 3);
        due("DAY of a delivered one", t.sack(1, 6), 4);
        due("DAY of the second trip", t.sack(2, 6), 15);
        due("DAY", t.value(7), 16);
    }

    /** What would be, asked before the trip, is what it brings. */
    private static void brings(String name, MuleTrain t, int tilt) {
        int sacks = t.value(1);
        int mules = t.value(0);
        int money = t.tripBrings();
        int[] fates = new int[sacks];
        int[] places = new int[sacks];
        int[] worths = new int[sacks];
        for (int sack = 0; sack < sacks; sack++) {
            fates[sack] = t.fate(sack);
            places[sack] = t.sack(sack, 3);
            worths[sack] = t.sack(sack, 2);
        }
        int[] tired = new int[mules];
        for (int mule = 0; mule < mules; mule++) {
            tired[mule] = t.tiredBy(mule);
        }
        t.set(0, tilt);
        due("trip() of " + name, t.trip(), money);
        for (int sack = 0; sack < sacks; sack++) {
            int place = t.sack(sack, 3);
            int due = places[sack] != 1 ? 0 : place == 3 ? 3 : t.sack(sack, 2) < worths[sack] ? 2 : 1;
            due("fate(" + sack + ") of " + name, fates[sack], due);
        }
        for (int mule = 0; mule < mules; mule++) {
            due("tiredBy(" + mule + ") of " + name, tired[mule], t.mule(mule, 1));
        }
    }

    private static void predictionsAndTrip() {
        meeting("Promise 16", "Returns how much MONEY would become more by a trip now", "Promise 30", "Makes a trip. @return how much MONEY became more (below 0 if less)");
        brings("the new train", new MuleTrain(), 20);
        brings("a rough way", loaded(ROUGH), 99);
        MuleTrain again = loaded(ROUGH + ";trip");
        again.pack(6, 0, 0);
        again.addSack(1, 5, 77);
        again.fill(1);
        brings("a rough way with tired mules", again, 99);
        MuleTrain rough = loaded(ROUGH);
        due("fate(0), lost in the ford", rough.fate(0), 3);
        due("fate(1), wet", rough.fate(1), 2);
        due("fate(2), broken", rough.fate(2), 2);
        due("fate(4), lost with all of its mule", rough.fate(4), 3);
        due("fate(6), in the store", rough.fate(6), 0);
        due("tiredBy(2), of a mule that lost all sacks under way", rough.tiredBy(2), 0);
        rough.set(1, 0);
        due("tiredBy(2) with EASE 0", rough.tiredBy(2), 3);
        due("tiredBy(1), of one without sacks", rough.tiredBy(1), 0);
    }

    private static void predictionsOfAnUnlevelTrip() {
        meeting("Promise 16", "whether it can begin or not", "Section 4", "2 a mule is not LEVEL.");
        MuleTrain t = loaded(ROUGH.replace("train 99", "train 0"));
        due("whyNoTrip(0)", t.whyNoTrip(0), 2);
        due("whyNoTrip(1)", t.whyNoTrip(1), 0);
        thrown(STATE, "trip()", () -> t.trip());
        due("tripBrings(), as of the train that is LEVEL", t.tripBrings(), loaded(ROUGH).tripBrings());
        brings("a train that is not LEVEL", t, 99);
    }

    private static void predictionsOnTheLastDay() {
        meeting("Promise 16", "whether it can begin or not", "Promise 30", "or DAY would be above 9999");
        MuleTrain t = onDay(9999);
        thrown(STATE, "trip()", () -> t.trip());
        due("whyNoTrip(0)", t.whyNoTrip(0), 0);
        due("tripBrings()", t.tripBrings(), 149);
        due("fate(1)", t.fate(1), 2);
        due("fate(3)", t.fate(3), 1);
        due("tiredBy(0)", t.tiredBy(0), 12);
        due("DAY", t.value(7), 9999);
    }

    private static void predictionsWithoutSacks() {
        meeting("Promise 16", "(0 if no mule has a sack)", "Section 4", "1 no mule has a sack");
        MuleTrain t = new MuleTrain();
        t.set(2, 50);
        t.trip();
        due("whyNoTrip(0)", t.whyNoTrip(0), 1);
        due("tripBrings() with WAGE 50", t.tripBrings(), 0);
        numbersOf("fate", 5, 0, sack -> t.fate(sack));
        due("tiredBy(0), as it is", t.tiredBy(0), 12);
        due("tiredBy(1), as it is", t.tiredBy(1), 8);
        numbersOf("deepest", 2, 9, mule -> t.deepest(mule));
        due("worthOfLoads()", t.worthOfLoads(), 0);
    }

    private static void numbersOf(String call, int rows, double due, OfNumber asked) {
        for (int row = 0; row < rows; row++) {
            due(call + "(" + row + ")", asked.answer(row), due);
        }
    }

    private static void predictionsBehindUndo() {
        meeting("Promise 17", "Returns what a trip now would do to this sack:", "Section 5", "each undo brings everything back to what it was before the change");
        MuleTrain t = loaded(ROUGH);
        int brings = t.tripBrings();
        t.save(1);
        for (int times = 0; times < 2; times++) {
            due("trip()", t.trip(), brings);
            due("fate(1) of a delivered one", t.fate(1), 0);
            due("fate(0) of a lost one", t.fate(0), 0);
            if (times == 0) {
                t.undo();
            } else {
                t.restore(1);
            }
            due("fate(1)", t.fate(1), 2);
            due("fate(0)", t.fate(0), 3);
            due("tripBrings()", t.tripBrings(), brings);
        }
    }

    private static void deepestAndFord() {
        meeting("Promise 23", "Returns the greatest depth (1 to 9) of a ford at which the mule, as it is now, would lose no sack", "Section 4", "a ford: the mule sheds to what it BEARS times (10 less the depth) divided by 10.");
        for (int weight : new int[] {1, 5, 6, 14, 15, 29, 30, 44, 45, 49, 50}) {
            MuleTrain t = loaded("train 99 0 0;mule a 55;sack iron " + weight + " 1;pack 0 a left");
            int deepest = t.deepest(0);
            for (int depth = 1; depth <= 9; depth++) {
                t.addStage(1, depth);
                due("fate(0) of " + weight + " in a ford of " + depth, t.fate(0), depth > deepest ? 3 : 1);
                t.undo();
            }
        }
    }

    private static void freshInAndRest() {
        meeting("Promise 22", "Returns behind how many days of rest TIRED of the mule is 0", "Section 4", "each day DAY becomes 1 more, and TIRED of each mule EASE less, 0 at least.");
        for (int tired : new int[] {1, 9, 10, 11, 99, 100}) {
            for (int ease : new int[] {1, 2, 9, 10, 11, 49, 50}) {
                MuleTrain t = tired(tired, ease);
                int days = t.freshIn(0);
                if (days > 1) {
                    t.rest(days - 1);
                    due("freshIn(0) a day before", t.freshIn(0), 1);
                    due("TIRED is left a day before", t.mule(0, 1) > 0 ? 1 : 0, 1);
                }
                due("TIRED then", t.rest(1), 0);
                due("freshIn(0) then", t.freshIn(0), 0);
            }
        }
    }

    private static void whyNotAndPack() {
        meeting("Promise 14", "Returns why it cannot be packed on this mule:", "Promise 26", "Throws `IllegalStateException` if it cannot be packed");
        for (MuleTrain t : new MuleTrain[] {new MuleTrain(), loaded(ROUGH), loaded(ROUGH + ";trip")}) {
            int sacks = t.value(1);
            for (int mule = 0; mule < t.value(0); mule++) {
                for (int sack = 0; sack < sacks; sack++) {
                    int one = sack;
                    int other = mule;
                    if (t.whyNot(sack, mule) != 0) {
                        thrown(STATE, "pack(" + one + ", " + other + ", 0)", () -> t.pack(one, other, 0));
                    } else {
                        int load = t.mule(mule, 3);
                        due("pack(" + one + ", " + other + ", 1)", t.pack(one, other, 1), load + t.sack(one, 1));
                        due("whyNot behind it", t.whyNot(one, other), 1);
                        t.undo();
                    }
                }
            }
        }
    }

    private static void whyNoTripAndTrip() {
        meeting("Promise 15", "0 the reason why a trip cannot begin (section 4; 0 if it can)", "Promise 30", "@throws IllegalStateException if it cannot begin");
        for (int tilt = 0; tilt <= 99; tilt += 3) {
            MuleTrain t = loaded(ROUGH);
            t.set(0, tilt);
            if (t.whyNoTrip(0) == 0) {
                due("whyNoTrip(1)", t.whyNoTrip(1), MuleTrain.NONE);
                due("trip()", t.trip(), loaded(ROUGH).tripBrings());
            } else {
                due("LEVEL of whyNoTrip(1)", t.mule(t.whyNoTrip(1), 7), 0);
                thrown(STATE, "trip() with TILT " + tilt, () -> t.trip());
            }
        }
    }

    private static void bestAndFill() {
        meeting("Promise 28", "as long as there is a best sack (bestSack()), it is packed on the lighter side", "Promise 20", "Returns the sack that is best for it:");
        String text = "train 99 0 0;mule a 60;sack iron 31 60;sack grain 20 50;sack glass 20 50;sack cloth 9 20;sack iron 61 999;sack grain 12 1;sack grain 8 0;sack iron 1 0";
        MuleTrain filled = loaded(text);
        MuleTrain packed = loaded(text);
        int most = filled.bestWorth(0);
        int times = 0;
        for (int best = packed.bestSack(0); best != MuleTrain.NONE; best = packed.bestSack(0)) {
            packed.pack(best, 0, packed.lighter(0));
            times++;
        }
        due("fill(0)", filled.fill(0), times);
        same("packing one by one", Check.all(filled), packed);
        // 60, 50 and 20 for 31, 20 and 9 are the most; by WORTH for WEIGHT come 50, 50 and 20.
        due("bestWorth(0)", most, 130);
        due("WORTH that fill(0) packed", filled.mule(0, 8), 120);
        due("bestWorth(0) of what is left", filled.bestWorth(0), 0);
    }

    private static void lighterAndShift() {
        meeting("Promise 21", "Returns the lighter side (0 or 1; 0 if both are alike).", "Promise 29", "Returns the difference of the WEIGHTs of both sides of the mule then.");
        MuleTrain t = new MuleTrain();
        due("lighter(0) with 30 and 10", t.lighter(0), 1);
        due("shift(3)", t.shift(3), 40);
        due("lighter(0) with 40 and 0", t.lighter(0), 1);
        due("shift(0)", t.shift(0), 20);
        due("lighter(0) with 10 and 30", t.lighter(0), 0);
        t.addSack(0, 20, 1);
        t.pack(5, 0, 0);
        due("lighter(0) with 30 and 30", t.lighter(0), 0);
        due("undo() of all brings 30 and 10 back", t.undo() + t.undo() + t.undo() + t.undo(), 6);
        due("lighter(0) at first", t.lighter(0), 1);
    }
}
