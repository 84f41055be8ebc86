/** Promises 37 and 38: undo, save. */
public final class UndoSaveTest {
    public static void main(String[] args) {
        promise37Everything();
        promise37Ring();
        promise37ChangesBehindUndo();
        promise37WhatIsKept();
        promise37RestoreIsUndone();
        promise38Save();
        promise38IsNoChange();
        Check.end();
    }

    private interface Change {
        int answer(MuleTrain train);
    }

    private static void undone(String name, Change change) {
        MuleTrain t = Check.loaded("train 99 3 5;mule a 100;mule b 50;sack iron 60 7;sack grain 9 8;sack glass 9 90;sack cloth 1 3;sack glass 1 0;sack grain 5 50;ford 9;road 99;camp 3;"
            + "pack 3 a left;trip;pack 0 a left;pack 1 a right;pack 2 a right;pack 4 b left");
        t.save(1);
        t.addSack(3, 4, 5);
        String before = Check.all(t);
        change.answer(t);
        Check.due("changes behind " + name, t.value(10), 2);
        Check.due("undo() of " + name, t.undo(), 1);
        if (!before.equals(Check.all(t))) {
            Check.fault(name + " was not undone wholly: " + before + " became " + Check.all(t));
        }
    }

    private static void promise37Everything() {
        undone("pack", t -> t.pack(5, 1, 0));
        undone("unpack", t -> t.unpack(0));
        undone("fill", t -> t.fill(1));
        undone("fill of nothing", t -> t.fill(1) + t.undo() + t.fill(0));
        undone("shift", t -> t.shift(0));
        undone("trip", t -> t.trip());
        undone("rest", t -> t.rest(2));
        undone("addSack", t -> t.addSack(0, 1, 1));
        undone("addStage", t -> t.addStage(0, 1));
        undone("dropStage", t -> t.dropStage(0));
        undone("set", t -> t.set(0, 1));
        undone("set as it is", t -> t.set(0, 99));
        undone("restore", t -> t.restore(1));
    }

    private static void promise37Ring() {
        MuleTrain t = new MuleTrain();
        Check.thrown("undo() at first", IllegalStateException.class, () -> t.undo());
        for (int day = 0; day < 25; day++) {
            Check.due("changes", t.value(10), Math.min(day, 10));
            t.rest(1);
        }
        for (int left = 9; left >= 0; left--) {
            Check.due("undo()", t.undo(), left);
            Check.due("changes behind undo()", t.value(10), left);
            Check.due("DAY behind undo()", t.value(7), 15 + left);
        }
        Check.thrown("an 11th undo()", IllegalStateException.class, () -> t.undo());
        Check.due("DAY behind an 11th undo()", t.value(7), 15);
    }

    private static void promise37ChangesBehindUndo() {
        MuleTrain t = new MuleTrain();
        for (int value = 1; value <= 12; value++) {
            t.set(0, value);
        }
        for (int times = 0; times < 4; times++) {
            t.undo();
        }
        Check.due("TILT behind 4 undo()", t.setting(0), 8);
        t.set(0, 50);
        Check.due("changes behind a change", t.value(10), 7);
        t.set(0, 51);
        t.set(0, 52);
        t.set(0, 53);
        t.set(0, 54);
        Check.due("changes behind 5", t.value(10), 10);
        int[] due = {53, 52, 51, 50, 8, 7, 6, 5, 4, 3};
        for (int left = 9; left >= 0; left--) {
            Check.due("undo()", t.undo(), left);
            Check.due("TILT behind it", t.setting(0), due[9 - left]);
        }
        Check.thrown("undo() of nothing", IllegalStateException.class, () -> t.undo());
    }

    private static void promise37WhatIsKept() {
        MuleTrain t = new MuleTrain();
        t.trip();
        t.save(1);
        t.writeWay();
        Check.thrown("load of an error", IllegalStateException.class, () -> Check.load(t, "train 0 51 0"));
        t.feed(0x74726169, 0x6e203120, 0x32203320, 0x20202020, 0x20202020);
        Check.due("undo()", t.undo(), 0);
        Check.due("errorCode() behind undo()", t.errorCode(), 2);
        Check.due("errorPosition() behind undo()", t.errorPosition(), 8);
        Check.output("the output behind undo()", t, 18, "road40 ford5 camp8");
        Check.due("save(0) behind undo()", t.save(0), 2);
        Check.due("restore(1) behind undo()", t.restore(1), 1);
        Check.due("MONEY behind restore(1)", t.value(8), 149);
        Check.due("restore(0)", t.restore(0), 0);
        Check.due("MONEY behind restore(0)", t.value(8), 0);
        Check.due("load of the input behind undo()", t.load(20), 0);
        Check.due("TILT behind it", t.setting(0), 1);
    }

    private static void promise37RestoreIsUndone() {
        MuleTrain t = new MuleTrain();
        t.save(0);
        t.rest(3);
        t.restore(0);
        Check.due("changes behind restore", t.value(10), 2);
        Check.due("DAY behind restore", t.value(7), 0);
        Check.due("undo() of restore", t.undo(), 1);
        Check.due("DAY behind undo() of restore", t.value(7), 3);
        Check.due("undo() of rest", t.undo(), 0);
        Check.due("restore behind undo()", t.restore(0), 0);
    }

    private static void promise38Save() {
        MuleTrain t = new MuleTrain();
        Check.due("save(1)", t.save(1), 1);
        Check.due("save(1) again", t.save(1), 1);
        t.rest(5);
        Check.due("save(0)", t.save(0), 2);
        t.rest(5);
        Check.due("save(0) in place", t.save(0), 2);
        t.rest(1);
        Check.due("restore(0)", t.restore(0), 10);
        Check.due("restore(1)", t.restore(1), 0);
        t.trip();
        Check.due("restore(0) again", t.restore(0), 10);
        Check.due("restore(1) again", t.restore(1), 0);
        Check.thrown("save(2)", IllegalArgumentException.class, () -> t.save(2));
        Check.thrown("save(-1)", IllegalArgumentException.class, () -> t.save(-1));
        Check.thrown("save(LEAST)", IllegalArgumentException.class, () -> t.save(Integer.MIN_VALUE));
        Check.thrown("save(MOST)", IllegalArgumentException.class, () -> t.save(Integer.MAX_VALUE));
        Check.load(t, "train 1 2 3;mule a 50");
        Check.thrown("restore(1) behind a load", IllegalStateException.class, () -> t.restore(1));
        Check.due("save(1) behind a load", t.save(1), 1);
        Check.due("restore(1) behind it", t.restore(1), 0);
        Check.due("mules behind it", t.value(0), 1);
    }

    private static void promise38IsNoChange() {
        MuleTrain t = new MuleTrain();
        t.rest(1);
        t.save(0);
        Check.due("changes behind save", t.value(10), 1);
        Check.due("undo() behind save", t.undo(), 0);
        Check.due("DAY behind it", t.value(7), 0);
        Check.due("restore(0) of what was saved", t.restore(0), 1);
        Check.due("changes behind restore", t.value(10), 1);
    }
}
