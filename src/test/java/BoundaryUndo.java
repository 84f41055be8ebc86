/** The boundaries of section 5 CHANGES and of the promises 37 and 38: undo and save. */
final class BoundaryUndo extends Boundary {
    static void run() {
        section5ChangesThatThrow();
        section5EverythingStays();
        section5EachMethod();
        section5NoChanges();
        section5LatestTen();
        section5OneAfterTheOther();
        section5BringsBack();
        section5WhatIsLeftAlone();
        promise37LatestNotUndone();
        promise37HowMany();
        promise37None();
        promise37BehindALoad();
        promise38InPlace();
        promise38NoChange();
        promise38Quantity();
        promise38Range();
    }

    private static void section5ChangesThatThrow() {
        sentence("Section 5", "are changes if they do not throw");
        MuleTrain t = new MuleTrain();
        thrown(STATE, "pack", () -> t.pack(0, 0, 0));
        thrown(STATE, "unpack", () -> t.unpack(2));
        thrown(NO_SUCH, "fill", () -> t.fill(2));
        thrown(STATE, "shift", () -> t.shift(2));
        thrown(ARGUMENT, "rest", () -> t.rest(0));
        thrown(ARGUMENT, "addSack", () -> t.addSack(0, 0, 0));
        thrown(ARGUMENT, "addStage", () -> t.addStage(0, 0));
        thrown(NO_SUCH, "dropStage", () -> t.dropStage(3));
        thrown(ARGUMENT, "set", () -> t.set(0, 100));
        thrown(STATE, "restore", () -> t.restore(0));
        due("changes behind calls that throw", t.value(10), 0);
        thrown(STATE, "undo() behind calls that throw", () -> t.undo());
        t.set(0, 0);
        thrown(STATE, "trip", () -> t.trip());
        due("changes behind a trip that cannot begin", t.value(10), 1);
    }

    private static void section5EverythingStays() {
        sentence("Section 5", "even if everything stays as it was");
        isChange("set(0, 20) as it is", new MuleTrain(), 20, t -> t.set(0, 20));
        isChange("set(2, 3) as it is", new MuleTrain(), 3, t -> t.set(2, 3));
        isChange("fill(1) of nothing", loaded("train 0 0 0;mule a 10;mule b 10"), 0, t -> t.fill(1));
        MuleTrain saved = new MuleTrain();
        saved.save(1);
        isChange("restore(1) of what is there", saved, 0, t -> t.restore(1));
    }

    private static void section5EachMethod() {
        sentence("Section 5", "The methods of the section \"changes\" are changes");
        isChange("pack(2, 0, 1)", new MuleTrain(), 90, t -> t.pack(2, 0, 1));
        isChange("unpack(1)", new MuleTrain(), 0, t -> t.unpack(1));
        isChange("fill(0)", new MuleTrain(), 1, t -> t.fill(0));
        isChange("shift(3)", new MuleTrain(), 40, t -> t.shift(3));
        isChange("trip()", new MuleTrain(), 149, t -> t.trip());
        isChange("rest(99)", new MuleTrain(), 0, t -> t.rest(99));
        isChange("addSack(3, 99, 999)", new MuleTrain(), 5, t -> t.addSack(3, 99, 999));
        isChange("addStage(2, 24)", new MuleTrain(), 3, t -> t.addStage(2, 24));
        isChange("dropStage(0)", new MuleTrain(), 2, t -> t.dropStage(0));
        isChange("set(1, 50)", new MuleTrain(), 10, t -> t.set(1, 50));
        MuleTrain saved = new MuleTrain();
        saved.save(0);
        saved.trip();
        isChange("restore(0)", saved, 0, t -> t.restore(0));
    }

    private static void section5NoChanges() {
        sentence("Section 5", "The methods of the section \"changes\"");
        MuleTrain t = new MuleTrain();
        t.save(0);
        t.feed(0, 0, 0, 0, 0);
        thrown(STATE, "load of an error", () -> t.load(20));
        t.writeMule(0);
        t.writeWay();
        t.outputByte(0);
        t.tripBrings();
        due("changes behind what is no change", t.value(10), 0);
        t.rest(1);
        t.undo();
        due("changes behind undo()", t.value(10), 0);
    }

    private static void section5LatestTen() {
        sentence("Section 5", "The latest 10 changes can be undone");
        for (int changes = 9; changes <= 11; changes++) {
            MuleTrain t = new MuleTrain();
            for (int change = 0; change < changes; change++) {
                t.rest(1);
            }
            int most = Math.min(changes, 10);
            due("changes that can be undone of " + changes, t.value(10), most);
            for (int left = most - 1; left >= 0; left--) {
                due("undo()", t.undo(), left);
            }
            thrown(STATE, "undo() behind " + most, () -> t.undo());
            due("DAY behind " + most + " undo() of " + changes, t.value(7), changes - most);
        }
        MuleTrain many = new MuleTrain();
        for (int change = 0; change < 100; change++) {
            many.rest(1);
        }
        for (int times = 0; times < 10; times++) {
            many.undo();
        }
        due("DAY behind 10 undo() of 100", many.value(7), 90);
        thrown(STATE, "the 11th undo() of 100", () -> many.undo());
    }

    private static void section5OneAfterTheOther() {
        sentence("Section 5", "one after the other");
        MuleTrain t = new MuleTrain();
        for (int tilt = 1; tilt <= 10; tilt++) {
            t.set(0, 50 + tilt);
        }
        for (int tilt = 9; tilt >= 1; tilt--) {
            t.undo();
            due("TILT behind undo()", t.setting(0), 50 + tilt);
        }
        due("the 10th undo()", t.undo(), 0);
        due("TILT at first", t.setting(0), 20);
        // Undone changes make room: of 10, two are undone and two made, and all 10 are undone.
        MuleTrain u = new MuleTrain();
        for (int times = 0; times < 10; times++) {
            u.rest(1);
        }
        u.undo();
        due("undo() of the 9th", u.undo(), 8);
        u.rest(5);
        u.rest(7);
        due("changes behind two new ones", u.value(10), 10);
        due("undo() of the 10th", u.undo(), 9);
        due("DAY", u.value(7), 13);
        due("undo() of the 9th", u.undo(), 8);
        due("DAY", u.value(7), 8);
        due("undo() of the 8th", u.undo(), 7);
        due("DAY", u.value(7), 7);
    }

    private static void section5BringsBack() {
        sentence("Section 5", "each undo brings everything back to what it was before the change");
        // The trip makes tired, loses, breaks, wets, delivers and pays.
        MuleTrain t = loaded("train 99 3 5;mule a 100;mule b 50;sack iron 60 7;sack grain 9 8;sack glass 9 90;sack cloth 1 3;ford 5;road 9;camp 1;pack 0 a left;pack 1 a right;pack 2 a right;pack 3 b left");
        String before = Check.all(t);
        t.trip();
        due("count(2) behind the trip", t.count(2), 7);
        due("count(4) behind the trip", t.count(4), 90);
        t.undo();
        same("undo() of a trip", before, t);
        for (int what = 0; what <= 6; what++) {
            due("count(" + what + ") behind undo()", t.count(what), 0);
        }
    }

    private static void section5WhatIsLeftAlone() {
        sentence("Section 5", "except for the buffers, errorCode() and errorPosition() and what is saved");
        MuleTrain t = new MuleTrain();
        t.rest(3);
        t.rest(4);
        thrown(STATE, "load of an error", () -> Check.load(t, "train 0 0 0;road 0"));
        due("feed", t.feed(0x74726169, 0x6e203520, 0x36203720, 0x20202020, 0x20202020), 20);
        t.save(1);
        int length = t.writeMule(1);
        t.undo();
        due("errorCode() behind undo()", t.errorCode(), 2);
        due("errorPosition() behind undo()", t.errorPosition(), 17);
        due("the last byte of the output behind undo()", t.outputByte(length - 1), '0');
        thrown(INDEX, "the byte behind the output", () -> t.outputByte(length));
        due("restore(1), which was saved on DAY 7", t.restore(1), 7);
        t.undo();
        due("DAY behind undo() of restore(1)", t.value(7), 3);
        due("restore(1) once more", t.restore(1), 7);
        due("save(0), where slot 1 is saved", t.save(0), 2);
        due("load of the input buffer", t.load(20), 0);
        due("WAGE of the input buffer", t.setting(2), 7);
    }

    private static void promise37LatestNotUndone() {
        sentence("Promise 37", "Undoes the latest change that was not undone.");
        MuleTrain t = new MuleTrain();
        t.set(0, 1);
        t.set(0, 2);
        t.undo();
        due("TILT behind one undo()", t.setting(0), 1);
        t.set(0, 3);
        t.undo();
        due("TILT behind undo() of the third", t.setting(0), 1);
        t.undo();
        due("TILT behind undo() of the first", t.setting(0), 20);
        thrown(STATE, "undo() where all are undone", () -> t.undo());
    }

    private static void promise37HowMany() {
        sentence("Promise 37", "Returns how many changes can still be undone.");
        MuleTrain t = new MuleTrain();
        t.rest(1);
        due("undo() of the only one", t.undo(), 0);
        for (int times = 0; times < 11; times++) {
            t.rest(1);
        }
        for (int left = 9; left >= 0; left--) {
            due("undo()", t.undo(), left);
            due("value(10)", t.value(10), left);
        }
    }

    private static void promise37None() {
        sentence("Promise 37", "Throws `IllegalStateException` if there is none");
        MuleTrain t = new MuleTrain();
        refused(STATE, "undo() at first", t, () -> t.undo());
        t.rest(1);
        t.undo();
        refused(STATE, "undo() of nothing more", t, () -> t.undo());
    }

    private static void promise37BehindALoad() {
        sentence("Promise 37", "Throws `IllegalStateException` if there is none");
        MuleTrain t = new MuleTrain();
        t.rest(1);
        t.rest(1);
        Check.load(t, "train 99 0 0;mule a 10;sack iron 1 1;pack 0 a left;rest 5");
        thrown(STATE, "undo() behind a load", () -> t.undo());
        t.unpack(0);
        due("undo() of the first behind a load", t.undo(), 0);
        due("DAY behind it", t.value(7), 5);
        thrown(STATE, "undo() of nothing more", () -> t.undo());
    }

    private static void promise38InPlace() {
        sentence("Promise 38", "Saves everything that undo() brings back in a slot, in place of what was saved there.");
        MuleTrain t = new MuleTrain();
        for (int slot = 0; slot <= 1; slot++) {
            t.save(slot);
            t.rest(5);
            String second = Check.all(t);
            t.save(slot);
            t.set(0, 50 + slot);
            due("restore(" + slot + ")", t.restore(slot), 5 + 5 * slot);
            same("restore(" + slot + ")", second, t);
        }
    }

    private static void promise38NoChange() {
        sentence("Promise 38", "This is not a change and is not undone.");
        MuleTrain t = new MuleTrain();
        t.save(0);
        due("changes behind save(0)", t.value(10), 0);
        thrown(STATE, "undo() behind save(0)", () -> t.undo());
        t.rest(1);
        t.save(0);
        due("undo() behind save(0) and a change", t.undo(), 0);
        due("restore(0), as the save was not undone", t.restore(0), 1);
        due("save(1), where slot 0 is still saved", t.save(1), 2);
    }

    private static void promise38Quantity() {
        sentence("Promise 38", "Returns the quantity of slots in which something is saved then.");
        for (int slot = 0; slot <= 1; slot++) {
            MuleTrain t = new MuleTrain();
            due("the first save", t.save(slot), 1);
            due("save in its place", t.save(slot), 1);
            due("save of the other", t.save(1 - slot), 2);
            due("save in place of both", t.save(slot), 2);
            Check.load(t, HEAD);
            due("save behind a load", t.save(1 - slot), 1);
        }
    }

    private static void promise38Range() {
        sentence("Promise 38", "Throws `IllegalArgumentException` if slot is out of range");
        MuleTrain t = new MuleTrain();
        for (int slot : new int[] {-1, 2, LEAST, MOST}) {
            thrown(ARGUMENT, "save(" + slot + ")", () -> t.save(slot));
        }
        due("save(1), as nothing was saved", t.save(1), 1);
        due("save(0)", t.save(0), 2);
    }
}
