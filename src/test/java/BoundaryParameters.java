import java.util.NoSuchElementException;

/** What each call's description says of its parameters. */
final class BoundaryParameters extends Boundary {
    private interface OfRow {
        double answer(MuleTrain train, int row);
    }

    private interface WithRows {
        MuleTrain made(int rows);
    }

    private static final String[] NAMES = {"a", "b", "c", "d", "e", "f"};

    static void run() {
        numbersOfSacks();
        numbersOfMules();
        numbersOfStages();
        whatIsAsked();
        settings();
        slots();
        depths();
        lengths();
        indices();
        sides();
        days();
        sacksThatAreAdded();
        stagesThatAreAdded();
    }

    private static MuleTrain withSacks(int sacks) {
        return loaded(HEAD + ";mule a 300" + ";sack iron 1 1".repeat(sacks));
    }

    private static MuleTrain withMules(int mules) {
        StringBuilder text = new StringBuilder(HEAD + ";sack iron 1 1");
        for (int mule = 0; mule < mules; mule++) {
            text.append(";mule ").append(NAMES[mule]).append(" 300");
        }
        return loaded(text.toString());
    }

    private static MuleTrain withStages(int stages) {
        return loaded(HEAD + ";road 1".repeat(stages));
    }

    /** Each number from 0 to one less than there are is one of them, and no other is. */
    private static void numbers(int most, String parameter, int promise, WithRows with, OfRow call) {
        sentence("Promise " + promise, parameter);
        for (int rows : new int[] {0, 1, most - 1, most}) {
            for (int number : new int[] {LEAST, -1, 0, rows - 1, rows, most, MOST}) {
                boolean due = number >= 0 && number < rows;
                due(number + " is one of " + rows, isThere(with.made(rows), number, call) ? 1 : 0, due ? 1 : 0);
            }
        }
    }

    private static boolean isThere(MuleTrain train, int number, OfRow call) {
        try {
            call.answer(train, number);
        } catch (NoSuchElementException e) {
            return false;
        } catch (IllegalStateException e) {
            return true;
        }
        return true;
    }

    private static void numbersOfSacks() {
        sacks(11, (t, sack) -> t.sack(sack, 3));
        sacks(14, (t, sack) -> t.whyNot(sack, 0));
        sacks(17, (t, sack) -> t.fate(sack));
        sacks(26, (t, sack) -> t.pack(sack, 0, 1));
        sacks(27, (t, sack) -> t.unpack(sack));
        sacks(29, (t, sack) -> t.shift(sack));
    }

    private static void sacks(int promise, OfRow call) {
        numbers(16, "- `sack`: number of a sack", promise, BoundaryParameters::withSacks, call);
    }

    private static void numbersOfMules() {
        mules(9, (t, mule) -> t.mule(mule, 0));
        mules(10, (t, mule) -> t.nameByte(mule, 0));
        mules(14, (t, mule) -> t.whyNot(0, mule));
        mules(18, (t, mule) -> t.tiredBy(mule));
        mules(19, (t, mule) -> t.bestWorth(mule));
        mules(20, (t, mule) -> t.bestSack(mule));
        mules(21, (t, mule) -> t.lighter(mule));
        mules(22, (t, mule) -> t.freshIn(mule));
        mules(23, (t, mule) -> t.deepest(mule));
        mules(25, (t, mule) -> t.filled(mule));
        mules(26, (t, mule) -> t.pack(0, mule, 0));
        mules(28, (t, mule) -> t.fill(mule));
        mules(39, (t, mule) -> t.writeMule(mule));
    }

    private static void mules(int promise, OfRow call) {
        numbers(6, "- `mule`: number of a mule", promise, BoundaryParameters::withMules, call);
    }

    private static void numbersOfStages() {
        stages(12, (t, stage) -> t.stage(stage, 0));
        stages(34, (t, stage) -> t.dropStage(stage));
    }

    private static void stages(int promise, OfRow call) {
        numbers(8, "- `stage`: number of a stage", promise, BoundaryParameters::withStages, call);
    }

    private static void whatIsAsked() {
        MuleTrain t = new MuleTrain();
        sentence("Promise 6", "- `what`: 0 mules");
        range(ARGUMENT, "value", 0, 10, what -> t.value(what));
        sentence("Promise 8", "- `what`: 0 trips");
        range(ARGUMENT, "count", 0, 6, what -> t.count(what));
        sentence("Promise 9", "- `what`: 0 STRENGTH");
        range(ARGUMENT, "mule(1, ..)", 0, 9, what -> t.mule(1, what));
        sentence("Promise 11", "- `what`: 0 kind, 1 WEIGHT, 2 WORTH, 3 PLACE,");
        range(ARGUMENT, "sack(3, ..)", 0, 7, what -> t.sack(3, what));
        int[] glass = {3, 10, 90, 1};
        for (int what = 0; what < glass.length; what++) {
            due("sack(3, " + what + ")", t.sack(3, what), glass[what]);
        }
        sentence("Promise 12", "- `what`: 0 0 for a road, 1 for a ford, 2 for a camp, 1 its miles, depth or hours");
        range(ARGUMENT, "stage(2, ..)", 0, 1, what -> t.stage(2, what));
        int[] numbers = {40, 5, 8};
        for (int stage = 0; stage < numbers.length; stage++) {
            due("stage(" + stage + ", 0)", t.stage(stage, 0), stage);
            due("stage(" + stage + ", 1)", t.stage(stage, 1), numbers[stage]);
        }
    }

    private static void settings() {
        sentence("Promise 7", "- `which`: 0 to 2");
        MuleTrain t = new MuleTrain();
        range(ARGUMENT, "setting", 0, 2, which -> t.setting(which));
        sentence("Promise 35", "- `which`: 0 to 2");
        range(ARGUMENT, "set(.., 5)", 0, 2, which -> t.set(which, 5));
        sentence("Promise 35", "- `value`: a value in its range");
        range(ARGUMENT, "set(0, ..)", 0, 99, value -> t.set(0, value));
        range(ARGUMENT, "set(1, ..)", 0, 50, value -> t.set(1, value));
        range(ARGUMENT, "set(2, ..)", 0, 50, value -> t.set(2, value));
    }

    private static void slots() {
        MuleTrain t = new MuleTrain();
        sentence("Promise 38", "- `slot`: 0 or 1");
        range(ARGUMENT, "save", 0, 1, slot -> t.save(slot));
        sentence("Promise 36", "- `slot`: 0 or 1");
        range(ARGUMENT, "restore", 0, 1, slot -> t.restore(slot));
    }

    private static void depths() {
        sentence("Promise 15", "- `depth`: 0 the reason");
        MuleTrain t = new MuleTrain();
        range(ARGUMENT, "whyNoTrip", 0, 1, depth -> t.whyNoTrip(depth));
    }

    private static void lengths() {
        sentence("Promise 3", "- `length`: number of bytes, 0 to the length of the buffer");
        MuleTrain t = new MuleTrain();
        t.feed(' ', ' ', ' ', ' ', ' ');
        for (int length : new int[] {LEAST, -1, 21, MOST}) {
            thrown(ARGUMENT, "load(" + length + ") of 20", () -> t.load(length));
        }
        thrown(STATE, "load(20) of 20, which is no description", () -> t.load(20));
        thrown(STATE, "load(0) of 0, which is no description", () -> t.load(0));
    }

    private static void indices() {
        MuleTrain t = new MuleTrain();
        sentence("Promise 10", "- `index`: index of a letter of the name, from 0");
        due("nameByte(0, 0)", t.nameByte(0, 0), 'j');
        due("nameByte(0, 2)", t.nameByte(0, 2), 'n');
        due("nameByte(1, 3)", t.nameByte(1, 3), 'l');
        sentence("Promise 41", "- `index`: index into the output buffer");
        int length = t.writeWay();
        range(INDEX, "outputByte", 0, length - 1, index -> t.outputByte(index));
        due("outputByte(0)", t.outputByte(0), 'r');
    }

    private static void sides() {
        sentence("Promise 26", "- `side`: 0 or 1");
        for (int side = 0; side <= 1; side++) {
            MuleTrain t = new MuleTrain();
            int before = t.mule(0, 4 + side);
            t.pack(4, 0, side);
            due("WEIGHT of the side " + side, t.mule(0, 4 + side), before + 25);
        }
        MuleTrain t = new MuleTrain();
        thrown(ARGUMENT, "pack(4, 0, 2)", () -> t.pack(4, 0, 2));
        thrown(ARGUMENT, "pack(4, 0, -1)", () -> t.pack(4, 0, -1));
    }

    private static void days() {
        sentence("Promise 31", "- `days`: 1 to 99");
        MuleTrain t = new MuleTrain();
        range(ARGUMENT, "rest", 1, 99, days -> t.rest(days));
    }

    private static void sacksThatAreAdded() {
        MuleTrain t = loaded(HEAD);
        sentence("Promise 32", "- `kind`: 0 to 3");
        range(ARGUMENT, "addSack(.., 1, 1)", 0, 3, kind -> t.addSack(kind, 1, 1));
        sentence("Promise 32", "- `weight`: 1 to 99");
        range(ARGUMENT, "addSack(0, .., 1)", 1, 99, weight -> t.addSack(0, weight, 1));
        sentence("Promise 32", "- `worth`: 0 to 999");
        range(ARGUMENT, "addSack(0, 1, ..)", 0, 999, worth -> t.addSack(0, 1, worth));
        due("sacks", t.value(1), 6);
    }

    private static void stagesThatAreAdded() {
        MuleTrain t = loaded(HEAD);
        sentence("Promise 33", "- `kind`: 0 a road, 1 a ford, 2 a camp");
        range(ARGUMENT, "addStage(.., 1)", 0, 2, kind -> t.addStage(kind, 1));
        sentence("Promise 33", "- `number`: its miles, depth or hours");
        range(ARGUMENT, "addStage(0, ..)", 1, 99, miles -> t.addStage(0, miles));
        range(ARGUMENT, "addStage(1, ..)", 1, 9, depth -> t.addStage(1, depth));
        range(ARGUMENT, "addStage(2, ..)", 1, 24, hours -> t.addStage(2, hours));
        due("stages", t.value(6), 8);
    }
}
