/** Long runs of calls on a MuleTrain and on an Oracle: each answer and each exception must be the same. */
public final class OracleTest {
    private static final String[] NAMES = {"jen", "moll", "a", "left", "trip", "zzzzzz", "jenn", "je"};
    private static final String[] KINDS = {"grain", "cloth", "iron", "glass"};
    private static final String[] STAGES = {"road", "ford", "camp"};
    private static final String[] SIDES = {"left", "right"};
    private static final String[] ODD = {";", " ", "\n", "a", "z", "0", "9", "1", "{", "`", "/", ":", "A", "\t", "\r", "\u0000", "\u00ff", "\u00e1", "train", "trip", "1000", "left", "; trip", "; rest 99", "; mule ", " 5"};

    private static final int RUNS = 2500;
    private static final int TEXTS = 6000;
    private static final int MOST_CALLS = 512;
    private static final int CALLS_OF_COMPARE = 260;

    private static long seed;

    public static void main(String[] args) {
        for (int run = 1; run <= RUNS && Check.wrongs() < 20; run++) {
            seed = run;
            new OracleTest(run).runCalls(run % 4);
        }
        for (int run = 1; run <= TEXTS && Check.wrongs() < 20; run++) {
            seed = 77777 + run;
            new OracleTest(run).loadOne();
        }
        Check.end();
    }

    private final MuleTrain train = new MuleTrain();
    private final Oracle oracle = new Oracle();
    private final int run;
    private int calls;
    private int fed;

    private OracleTest(int run) {
        this.run = run;
    }

    /** A number from 0 to bound less 1, always the same ones for the same seed. */
    private static int upTo(int bound) {
        seed = seed * 6364136223846793005L + 1442695040888963407L;
        return (int) ((seed >>> 33) % bound);
    }

    private static int from(int least, int most) {
        return least + upTo(most - least + 1);
    }

    /** Mostly a number in the range, sometimes one at its edges or far outside. */
    private static int near(int least, int most) {
        switch (upTo(24)) {
            case 0:
                return least - 1;
            case 1:
                return most + 1;
            case 2:
                return least;
            case 3:
                return most;
            case 4:
                return upTo(2) == 0 ? Integer.MIN_VALUE + upTo(3) : Integer.MAX_VALUE - upTo(3);
            default:
                return most < least ? least : from(least, most);
        }
    }

    private static String text() {
        StringBuilder text = new StringBuilder("train ");
        text.append(upTo(3) == 0 ? upTo(20) : 99).append(' ').append(upTo(51)).append(' ').append(upTo(51));
        int mules = 0;
        int sacks = 0;
        int stages = 0;
        int lines = upTo(5) == 0 ? 60 : upTo(26);
        for (int line = 0; line < lines && text.length() < 640; line++) {
            text.append(upTo(8) == 0 ? "\n;" : ";").append(upTo(2) == 0 ? "" : " ");
            int what = upTo(20);
            if (what < 3 && (mules < 6 || upTo(5) == 0) || mules == 0) {
                text.append("mule ").append(upTo(9) == 0 ? NAMES[upTo(8)] : NAMES[mules % 8]).append(' ').append(upTo(3) == 0 ? from(10, 40) : from(60, 300));
                mules++;
            } else if (what < 9 && (sacks < 16 || upTo(5) == 0) || sacks == 0) {
                text.append("sack ").append(KINDS[upTo(4)]).append(' ').append(upTo(4) == 0 ? from(1, 99) : from(1, 20)).append(' ').append(upTo(3) == 0 ? upTo(5) : upTo(1000));
                sacks++;
            } else if (what < 12 && (stages < 8 || upTo(5) == 0)) {
                int kind = upTo(3);
                text.append(STAGES[kind]).append(' ').append(kind == 0 ? from(1, 99) : kind == 1 ? from(1, 9) : from(1, 24));
                stages++;
            } else if (what < 18) {
                text.append("pack ").append(upTo(sacks)).append(' ').append(NAMES[upTo(Math.min(mules, 8))]).append(' ').append(SIDES[upTo(2)]);
            } else if (what == 18) {
                text.append("trip");
            } else {
                text.append("rest ").append(from(1, 99));
            }
        }
        return text.toString();
    }

    private static String maybeSpoilt(String text) {
        StringBuilder spoilt = new StringBuilder(text);
        for (int times = upTo(3) == 0 ? from(1, 2) : 0; times > 0; times--) {
            int at = upTo(spoilt.length() + 1);
            int what = upTo(3);
            if (what == 0) {
                spoilt.insert(at, ODD[upTo(ODD.length)]);
            } else if (what == 1) {
                spoilt.delete(at, at + from(1, 3));
            } else {
                spoilt.replace(at, at + 1, ODD[upTo(ODD.length)]);
            }
        }
        return spoilt.length() > 700 ? spoilt.substring(0, 700) : spoilt.toString();
    }

    private void loadOne() {
        feedText(upTo(2) == 0 ? text() : maybeSpoilt(text()));
        int length = upTo(3) == 0 ? upTo(fed + 1) : fed;
        same("load(" + length + ")", () -> train.load(length), () -> oracle.load(length));
        compareAll();
    }

    private void feedText(String text) {
        byte[] bytes = Check.bytesOf(text);
        fed = 0;
        for (int at = 0; at < bytes.length; at += 20) {
            int[] five = Check.twentyFrom(bytes, at);
            same("feed", () -> train.feed(five[0], five[1], five[2], five[3], five[4]), () -> oracle.feed(five));
            fed = bytes.length;
        }
    }

    private void runCalls(int manner) {
        if (manner == 1 || manner == 3) {
            loadUntilGood();
        }
        if (manner == 2) {
            for (int times = 0; times < 101; times++) {
                same("rest(99)", () -> train.rest(99), () -> oracle.rest(99));
            }
        }
        int least = manner == 3 ? 0 : CALLS_OF_COMPARE;
        while (calls < MOST_CALLS - least && Check.wrongs() < 20) {
            if (upTo(3) == 0) {
                change();
            } else {
                question();
            }
        }
        compareAll();
    }

    /** A text that both take, so that the run starts from many states. */
    private void loadUntilGood() {
        for (int times = 0; times < 3; times++) {
            feedText(text());
            int length = fed;
            same("load(" + length + ")", () -> train.load(length), () -> oracle.load(length));
            if (oracle.errorCode == 0) {
                return;
            }
        }
    }

    private void change() {
        int sack = near(0, oracle.now.sacks.size() - 1);
        int mule = near(0, oracle.now.mules.size() - 1);
        int side = upTo(12) == 0 ? near(0, 1) : upTo(2);
        int slot = upTo(9) == 0 ? near(0, 1) : upTo(2);
        switch (upTo(22)) {
            case 0: case 1: case 2: case 3: case 4:
                same("pack(" + sack + ", " + mule + ", " + side + ")", () -> train.pack(sack, mule, side), () -> oracle.pack(sack, mule, side));
                break;
            case 5:
                same("unpack(" + sack + ")", () -> train.unpack(sack), () -> oracle.unpack(sack));
                break;
            case 6:
                same("fill(" + mule + ")", () -> train.fill(mule), () -> oracle.fill(mule));
                break;
            case 7:
                same("shift(" + sack + ")", () -> train.shift(sack), () -> oracle.shift(sack));
                break;
            case 8: case 9: case 10:
                same("trip()", () -> train.trip(), () -> oracle.trip());
                break;
            case 11:
                int days = upTo(3) == 0 ? near(1, 99) : from(1, 2);
                same("rest(" + days + ")", () -> train.rest(days), () -> oracle.rest(days));
                break;
            case 12: case 13: case 14:
                int kind = upTo(6) == 0 ? near(0, 3) : upTo(4);
                int weight = upTo(3) == 0 ? near(1, 99) : from(1, 25);
                int worth = near(0, 999);
                same("addSack(" + kind + ", " + weight + ", " + worth + ")", () -> train.addSack(kind, weight, worth), () -> oracle.addSack(kind, weight, worth));
                break;
            case 15:
                int stageKind = near(0, 2);
                int number = near(1, stageKind == 0 ? 99 : stageKind == 1 ? 9 : 24);
                same("addStage(" + stageKind + ", " + number + ")", () -> train.addStage(stageKind, number), () -> oracle.addStage(stageKind, number));
                break;
            case 16:
                int stage = near(0, oracle.now.way.size() - 1);
                same("dropStage(" + stage + ")", () -> train.dropStage(stage), () -> oracle.dropStage(stage));
                break;
            case 17:
                int which = near(0, 2);
                int value = near(0, which == 0 ? 99 : 50);
                same("set(" + which + ", " + value + ")", () -> train.set(which, value), () -> oracle.set(which, value));
                break;
            case 18:
                same("restore(" + slot + ")", () -> train.restore(slot), () -> oracle.restore(slot));
                break;
            case 19:
                same("save(" + slot + ")", () -> train.save(slot), () -> oracle.save(slot));
                break;
            default:
                for (int times = upTo(4) == 0 ? from(1, 12) : 1; times > 0; times--) {
                    same("undo()", () -> train.undo(), () -> oracle.undo());
                }
        }
    }

    private void question() {
        int sack = near(0, oracle.now.sacks.size() - 1);
        int mule = near(0, oracle.now.mules.size() - 1);
        int what = near(0, 10);
        switch (upTo(27)) {
            case 0: same("value(" + what + ")", () -> train.value(what), () -> oracle.value(what)); break;
            case 1: same("setting(" + what + ")", () -> train.setting(what), () -> oracle.setting(what)); break;
            case 2: same("count(" + what + ")", () -> train.count(what), () -> oracle.count(what)); break;
            case 3: same("mule(" + mule + ", " + what + ")", () -> train.mule(mule, what), () -> oracle.mule(mule, what)); break;
            case 4: same("nameByte(" + mule + ", " + what + ")", () -> train.nameByte(mule, what), () -> oracle.nameByte(mule, what)); break;
            case 5: same("sack(" + sack + ", " + what + ")", () -> train.sack(sack, what), () -> oracle.sack(sack, what)); break;
            case 6: same("stage(" + what + ", " + sack + ")", () -> train.stage(what, sack), () -> oracle.stage(what, sack)); break;
            case 7: same("gap()", () -> train.gap(), () -> 0); break;
            case 8: same("whyNot(" + sack + ", " + mule + ")", () -> train.whyNot(sack, mule), () -> oracle.whyNot(sack, mule)); break;
            case 9: same("whyNoTrip(" + mule + ")", () -> train.whyNoTrip(mule), () -> oracle.whyNoTrip(mule)); break;
            case 10: same("tripBrings()", () -> train.tripBrings(), () -> oracle.tripBrings()); break;
            case 11: case 12: same("fate(" + sack + ")", () -> train.fate(sack), () -> oracle.fate(sack)); break;
            case 13: same("tiredBy(" + mule + ")", () -> train.tiredBy(mule), () -> oracle.tiredBy(mule)); break;
            case 14: same("bestWorth(" + mule + ")", () -> train.bestWorth(mule), () -> oracle.bestWorth(mule)); break;
            case 15: same("bestSack(" + mule + ")", () -> train.bestSack(mule), () -> oracle.bestSack(mule)); break;
            case 16: same("lighter(" + mule + ")", () -> train.lighter(mule), () -> oracle.lighter(mule)); break;
            case 17: same("freshIn(" + mule + ")", () -> train.freshIn(mule), () -> oracle.freshIn(mule)); break;
            case 18: same("deepest(" + mule + ")", () -> train.deepest(mule), () -> oracle.deepest(mule)); break;
            case 19: same("worthOfLoads()", () -> train.worthOfLoads(), () -> oracle.worthOfLoads()); break;
            case 20: same("filled(" + mule + ")", () -> train.filled(mule), () -> oracle.filled(mule)); break;
            case 21: same("writeMule(" + mule + ")", () -> train.writeMule(mule), () -> oracle.writeMule(mule)); break;
            case 22: same("writeWay()", () -> train.writeWay(), () -> oracle.writeWay()); break;
            case 23: case 24:
                int index = near(0, oracle.output.length() - 1);
                same("outputByte(" + index + ")", () -> train.outputByte(index), () -> oracle.outputByte(index));
                break;
            default:
                if (upTo(8) == 0) {
                    int length = upTo(3) == 0 ? near(0, oracle.input.length()) : 0;
                    same("load(" + length + ")", () -> train.load(length), () -> oracle.load(length));
                } else if (upTo(4) == 0) {
                    same("feed", () -> train.feed(sack, mule, what, 1, 2), () -> oracle.feed(sack, mule, what, 1, 2));
                }
        }
    }

    private void compareAll() {
        same("errorCode()", () -> train.errorCode(), () -> oracle.errorCode);
        same("errorPosition()", () -> train.errorPosition(), () -> oracle.errorPosition);
        for (int what = 0; what <= 10; what++) {
            int each = what;
            same("value(" + each + ")", () -> train.value(each), () -> oracle.value(each));
            same("setting(" + each + ")", () -> train.setting(each), () -> oracle.setting(each));
            same("count(" + each + ")", () -> train.count(each), () -> oracle.count(each));
            for (int row = 0; row < oracle.now.mules.size(); row++) {
                int one = row;
                same("mule(" + one + ", " + each + ")", () -> train.mule(one, each), () -> oracle.mule(one, each));
            }
            for (int row = 0; row < oracle.now.sacks.size() && each <= 7; row++) {
                int one = row;
                same("sack(" + one + ", " + each + ")", () -> train.sack(one, each), () -> oracle.sack(one, each));
            }
            for (int row = 0; row < oracle.now.way.size() && each <= 1; row++) {
                int one = row;
                same("stage(" + one + ", " + each + ")", () -> train.stage(one, each), () -> oracle.stage(one, each));
            }
        }
    }

    /** What a train answers behind its 512th call is free, so nothing is asked then. */
    private void same(String call, Check.Call here, Check.Call there) {
        if (calls >= MOST_CALLS) {
            return;
        }
        calls++;
        String got = answer(here);
        String want = answer(there);
        if (!got.equals(want)) {
            Check.fault("run " + run + ": " + call + " answered " + got + ", due is " + want);
        }
    }

    private static String answer(Check.Call call) {
        try {
            return Double.toString(call.answer());
        } catch (RuntimeException e) {
            return "throws." + e.getClass().getName();
        }
    }
}
