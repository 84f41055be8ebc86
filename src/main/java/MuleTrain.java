import java.util.NoSuchElementException;

/** A quartermaster who packs mules by worth and weight; the document is ../shared/DOC.md. */
public final class MuleTrain {
    public static final int NONE = -1;

    private static final String FIRST_TEXT = "train 20 10 3; mule jen 100; mule moll 60; sack grain 30 40; sack cloth 20 60; sack iron 50 30; sack glass 10 90; sack grain 25 20; road 40; ford 5; camp 8; pack 0 jen left; pack 3 jen right; pack 1 moll left";

    private static final int MOST_SACKS = 16;
    private static final int MOST_MULES = 6;
    private static final int MOST_STAGES = 8;
    private static final int MOST_LETTERS = 6;
    private static final int MOST_DAY = 9999;
    private static final int MOST_TEXT = 700;
    private static final int FEED = 20;
    private static final int MOST_UNDOS = 10;
    private static final int SLOTS = 2;

    private static final int LEAST_STRENGTH = 10;
    private static final int MOST_STRENGTH = 300;
    private static final int MOST_TIRED = 100;
    private static final int MOST_WEIGHT = 99;
    private static final int MOST_WORTH = 999;
    private static final int MOST_REST = 99;
    private static final int DEEPEST_FORD = 9;
    private static final int WETTING_DEPTH = 5;

    private static final int SETTINGS = 3;
    private static final int TILT = 0;
    private static final int EASE = 1;
    private static final int WAGE = 2;

    // The facts of a sack stand in the order in which sack() is asked for them.
    private static final int SACK_FACTS = 8;
    private static final int KIND = 0;
    private static final int WEIGHT = 1;
    private static final int WORTH = 2;
    private static final int PLACE = 3;
    private static final int CARRIER = 4;
    private static final int SIDE = 5;
    private static final int END_DAY = 6;
    private static final int TOLD_WORTH = 7;

    private static final int GRAIN = 0;
    private static final int CLOTH = 1;
    private static final int IRON = 2;
    private static final int GLASS = 3;

    private static final int IN_STORE = 0;
    private static final int ON_MULE = 1;
    private static final int DELIVERED = 2;
    private static final int LOST = 3;

    private static final int LEFT = 0;
    private static final int RIGHT = 1;

    private static final int MULE_FACTS = 9;
    private static final int STRENGTH = 0;
    private static final int TIRED = 1;
    private static final int LETTERS = 2;
    private static final int FIRST_LETTER = 3;
    private static final int ASKED_OF_MULES = 10;

    private static final int STAGE_FACTS = 2;
    private static final int STAGE_KIND = 0;
    private static final int STAGE_NUMBER = 1;
    private static final int ROAD = 0;
    private static final int FORD = 1;
    private static final int CAMP = 2;

    private static final int COUNTS = 7;
    private static final int TRIPS = 0;
    private static final int WORTH_DELIVERED = 1;
    private static final int WORTH_LOST = 2;
    private static final int WORTH_WETTED = 3;
    private static final int WORTH_BROKEN = 4;
    private static final int WAGES = 5;
    private static final int WETTINGS = 6;

    private static final int NOT_IN_STORE = 1;
    private static final int TOO_HEAVY = 2;
    private static final int NO_SACKS = 1;
    private static final int NOT_LEVEL = 2;

    private static final int SYNTAX = 1;
    private static final int RANGE = 2;
    private static final int UNKNOWN = 3;
    private static final int TAKEN = 4;
    private static final int LIMIT = 5;
    private static final int REFUSED = 6;

    private static final int END = 0;
    private static final int WORD = 1;
    private static final int NUMBER = 2;
    private static final int SEMICOLON = 3;
    private static final int BAD = 4;
    private static final int MOST_DIGITS = 3;

    private final Train now;
    private final Train whatIf;
    private final History history;
    private final Train[] saved;
    private final boolean[] isSaved;
    private final Parser parser;
    private final StringBuilder output;
    private final int[] bestWithin;

    public MuleTrain() {
        Parser first = new Parser();
        first.writeText(FIRST_TEXT);
        first.parseText(FIRST_TEXT.length());
        first.emptyText();
        Train train = new Train();
        train.become(first.train);
        Train[] slots = new Train[SLOTS];
        for (int slot = 0; slot < SLOTS; slot++) {
            slots[slot] = new Train();
        }
        parser = first;
        now = train;
        whatIf = new Train();
        history = new History();
        saved = slots;
        isSaved = new boolean[SLOTS];
        output = new StringBuilder();
        bestWithin = new int[MOST_STRENGTH + 1];
    }

    // ---- input

    public int feed(int a, int b, int c, int d, int e) throws IllegalStateException {
        if (parser.fed + FEED > MOST_TEXT) {
            throw new IllegalStateException("the input buffer is full");
        }
        parser.writeFour(a);
        parser.writeFour(b);
        parser.writeFour(c);
        parser.writeFour(d);
        parser.writeFour(e);
        return parser.fed;
    }

    public int load(int length) throws IllegalArgumentException, IllegalStateException {
        if (length < 0 || length > parser.fed) {
            throw new IllegalArgumentException("the length is out of range");
        }
        parser.parseText(length);
        parser.emptyText();
        if (parser.code != 0) {
            throw new IllegalStateException("the text has an error");
        }
        now.become(parser.train);
        history.forget();
        for (int slot = 0; slot < SLOTS; slot++) {
            isSaved[slot] = false;
        }
        return now.sacks.used;
    }

    public int errorCode() {
        return parser.code;
    }

    public int errorPosition() {
        return parser.errorAt;
    }

    // ---- what there is

    public int value(int what) throws IllegalArgumentException {
        switch (what) {
            case 0:
                return now.mules.used;
            case 1:
                return now.sacks.used;
            case 2:
            case 3:
            case 4:
            case 5:
                return now.sacksIn(what - 2);
            case 6:
                return now.stages.used;
            case 7:
                return now.day;
            case 8:
                return now.money;
            case 9:
                return now.miles();
            case 10:
                return history.size;
            default:
                throw new IllegalArgumentException("there is no such value");
        }
    }

    public int setting(int which) throws IllegalArgumentException {
        requireSetting(which);
        return now.settings[which];
    }

    public int count(int what) throws IllegalArgumentException {
        if (what < 0 || what >= COUNTS) {
            throw new IllegalArgumentException("there is no such count");
        }
        return now.counts[what];
    }

    public int mule(int mule, int what) throws NoSuchElementException, IllegalArgumentException {
        requireMule(mule);
        if (what < 0 || what >= ASKED_OF_MULES) {
            throw new IllegalArgumentException("mules have no such number");
        }
        return muleFact(mule, what);
    }

    private int muleFact(int mule, int what) {
        switch (what) {
            case 0:
                return now.mules.at(mule, STRENGTH);
            case 1:
                return now.mules.at(mule, TIRED);
            case 2:
                return now.bearing(mule);
            case 3:
                return now.loadOn(mule);
            case 4:
                return now.weightOn(mule, LEFT);
            case 5:
                return now.weightOn(mule, RIGHT);
            case 6:
                return now.sacksOn(mule);
            case 7:
                return now.isLevel(mule) ? 1 : 0;
            case 8:
                return now.worthOn(mule);
            default:
                return now.mules.at(mule, LETTERS);
        }
    }

    public int nameByte(int mule, int index) throws NoSuchElementException {
        requireMule(mule);
        return now.letterOf(mule, index);
    }

    public int sack(int sack, int what) throws NoSuchElementException, IllegalArgumentException {
        requireSack(sack);
        if (what < 0 || what >= SACK_FACTS) {
            throw new IllegalArgumentException("sacks have no such number");
        }
        return now.sacks.at(sack, what);
    }

    public int stage(int stage, int what) throws NoSuchElementException, IllegalArgumentException {
        requireStage(stage);
        if (what < 0 || what >= STAGE_FACTS) {
            throw new IllegalArgumentException("stages have no such number");
        }
        return now.stages.at(stage, what);
    }

    public int gap() {
        return now.worthGap() + now.moneyGap() + now.overload();
    }

    // ---- reasons

    public int whyNot(int sack, int mule) throws NoSuchElementException {
        requireSack(sack);
        requireMule(mule);
        return now.reasonNotToPack(sack, mule);
    }

    public int whyNoTrip(int depth) throws IllegalArgumentException {
        if (depth < 0 || depth > 1) {
            throw new IllegalArgumentException("the depth is out of range");
        }
        int reason = now.reasonNotToGo();
        if (depth == 0) {
            return reason;
        }
        return reason == NOT_LEVEL ? now.firstUnlevel() : NONE;
    }

    // ---- what would be: nothing changes

    public int tripBrings() {
        whatIf.become(now);
        return whatIf.travel();
    }

    public int fate(int sack) throws NoSuchElementException {
        requireSack(sack);
        if (now.sacks.at(sack, PLACE) != ON_MULE) {
            return 0;
        }
        whatIf.become(now);
        whatIf.travel();
        if (whatIf.sacks.at(sack, PLACE) == LOST) {
            return 3;
        }
        return whatIf.sacks.at(sack, WORTH) < now.sacks.at(sack, WORTH) ? 2 : 1;
    }

    public int tiredBy(int mule) throws NoSuchElementException {
        requireMule(mule);
        whatIf.become(now);
        whatIf.travel();
        return whatIf.mules.at(mule, TIRED);
    }

    public int bestWorth(int mule) throws NoSuchElementException {
        requireMule(mule);
        int room = Math.min(now.bearing(mule) - now.loadOn(mule), MOST_STRENGTH);
        for (int weight = 0; weight <= room; weight++) {
            bestWithin[weight] = 0;
        }
        for (int sack = 0; sack < now.sacks.used; sack++) {
            if (now.sacks.at(sack, PLACE) == IN_STORE) {
                offerSack(now.sacks.at(sack, WEIGHT), now.sacks.at(sack, WORTH), room);
            }
        }
        return room < 0 ? 0 : bestWithin[room];
    }

    /** The weights are gone through downwards, as each sack can be taken only once. */
    private void offerSack(int weight, int worth, int room) {
        if (weight < 0 || room > MOST_STRENGTH) {
            return;
        }
        for (int total = room; total >= weight; total--) {
            bestWithin[total] = Math.max(bestWithin[total], bestWithin[total - weight] + worth);
        }
    }

    public int bestSack(int mule) throws NoSuchElementException {
        requireMule(mule);
        return now.bestFor(mule);
    }

    public int lighter(int mule) throws NoSuchElementException {
        requireMule(mule);
        return now.lighterSide(mule);
    }

    public int freshIn(int mule) throws NoSuchElementException {
        requireMule(mule);
        int tired = now.mules.at(mule, TIRED);
        int ease = now.settings[EASE];
        if (tired <= 0) {
            return 0;
        }
        return ease <= 0 ? NONE : (tired + ease - 1) / ease;
    }

    public int deepest(int mule) throws NoSuchElementException {
        requireMule(mule);
        int load = now.loadOn(mule);
        for (int depth = DEEPEST_FORD; depth >= 1; depth--) {
            if (load <= now.fordLimit(mule, depth)) {
                return depth;
            }
        }
        return 0;
    }

    public double worthOfLoads() {
        int worth = 0;
        int weight = 0;
        for (int mule = 0; mule < now.mules.used; mule++) {
            worth += now.worthOn(mule);
            weight += now.loadOn(mule);
        }
        return weight <= 0 ? 0.0 : (double) worth / (double) weight;
    }

    public float filled(int mule) throws NoSuchElementException {
        requireMule(mule);
        int bears = now.bearing(mule);
        return bears <= 0 ? 0.0f : (float) now.loadOn(mule) / (float) bears;
    }

    // ---- changes

    public int pack(int sack, int mule, int side) throws NoSuchElementException, IllegalArgumentException, IllegalStateException {
        requireSack(sack);
        requireMule(mule);
        if (side != LEFT && side != RIGHT) {
            throw new IllegalArgumentException("there is no such side");
        }
        if (now.reasonNotToPack(sack, mule) != 0) {
            throw new IllegalStateException("the sack cannot be packed on this mule");
        }
        history.remember(now);
        now.putOn(sack, mule, side);
        return now.loadOn(mule);
    }

    public int unpack(int sack) throws NoSuchElementException, IllegalStateException {
        requireSack(sack);
        requireOnMule(sack);
        history.remember(now);
        int mule = now.sacks.at(sack, CARRIER);
        now.takeOff(sack, IN_STORE);
        return now.loadOn(mule);
    }

    public int fill(int mule) throws NoSuchElementException {
        requireMule(mule);
        history.remember(now);
        return now.packBest(mule);
    }

    public int shift(int sack) throws NoSuchElementException, IllegalStateException {
        requireSack(sack);
        requireOnMule(sack);
        history.remember(now);
        now.sacks.put(sack, SIDE, now.sacks.at(sack, SIDE) == LEFT ? RIGHT : LEFT);
        return Math.abs(now.leftward(now.sacks.at(sack, CARRIER)));
    }

    public int trip() throws IllegalStateException {
        if (!now.mayTravel()) {
            throw new IllegalStateException("the trip cannot begin");
        }
        history.remember(now);
        return now.travel();
    }

    public int rest(int days) throws IllegalArgumentException, IllegalStateException {
        if (days < 1 || days > MOST_REST) {
            throw new IllegalArgumentException("the days are out of range");
        }
        if (now.day + days > MOST_DAY) {
            throw new IllegalStateException("there are not so many days");
        }
        history.remember(now);
        now.stayFor(days);
        return now.tiredTogether();
    }

    public int addSack(int kind, int weight, int worth) throws IllegalArgumentException, IllegalStateException {
        if (kind < GRAIN || kind > GLASS || weight < 1 || weight > MOST_WEIGHT || worth < 0 || worth > MOST_WORTH) {
            throw new IllegalArgumentException("there can be no such sack");
        }
        if (now.sacks.isFull()) {
            throw new IllegalStateException("there are too many sacks");
        }
        history.remember(now);
        return now.newSack(kind, weight, worth);
    }

    public int addStage(int kind, int number) throws IllegalArgumentException, IllegalStateException {
        if (kind < ROAD || kind > CAMP || number < 1 || number > mostOfStage(kind)) {
            throw new IllegalArgumentException("there can be no such stage");
        }
        if (now.stages.isFull()) {
            throw new IllegalStateException("there are too many stages");
        }
        history.remember(now);
        return now.newStage(kind, number);
    }

    public int dropStage(int stage) throws NoSuchElementException {
        requireStage(stage);
        history.remember(now);
        now.stages.dropRow(stage);
        return now.stages.used;
    }

    public int set(int which, int value) throws IllegalArgumentException {
        requireSetting(which);
        if (value < 0 || value > mostOfSetting(which)) {
            throw new IllegalArgumentException("the value is out of range");
        }
        history.remember(now);
        int before = now.settings[which];
        now.settings[which] = value;
        return before;
    }

    public int restore(int slot) throws IllegalArgumentException, IllegalStateException {
        requireSlot(slot);
        Train kept = saved[slot];
        if (!isSaved[slot] || kept == null) {
            throw new IllegalStateException("nothing is saved in this slot");
        }
        history.remember(now);
        now.become(kept);
        return now.day;
    }

    // ---- undo, save

    public int undo() throws IllegalStateException {
        if (history.size <= 0) {
            throw new IllegalStateException("no change can be undone");
        }
        history.bringBack(now);
        return history.size;
    }

    public int save(int slot) throws IllegalArgumentException {
        requireSlot(slot);
        Train kept = saved[slot];
        if (kept != null) {
            kept.become(now);
            isSaved[slot] = true;
        }
        int quantity = 0;
        for (int each = 0; each < SLOTS; each++) {
            quantity += isSaved[each] ? 1 : 0;
        }
        return quantity;
    }

    // ---- output

    public int writeMule(int mule) throws NoSuchElementException {
        requireMule(mule);
        output.setLength(0);
        for (int index = 0; index < now.mules.at(mule, LETTERS); index++) {
            output.append((char) now.letterOf(mule, index));
        }
        output.append(':');
        writeSide(mule, LEFT);
        output.append('|');
        writeSide(mule, RIGHT);
        output.append('=');
        output.append(now.loadOn(mule));
        return output.length();
    }

    private void writeSide(int mule, int side) {
        boolean first = true;
        for (int sack = 0; sack < now.sacks.used; sack++) {
            if (now.sacks.at(sack, CARRIER) == mule && now.sacks.at(sack, SIDE) == side) {
                if (!first) {
                    output.append(',');
                }
                output.append(sack);
                first = false;
            }
        }
    }

    public int writeWay() {
        output.setLength(0);
        for (int stage = 0; stage < now.stages.used; stage++) {
            if (stage > 0) {
                output.append(' ');
            }
            output.append(stageWord(now.stages.at(stage, STAGE_KIND)));
            output.append(now.stages.at(stage, STAGE_NUMBER));
        }
        return output.length();
    }

    public int outputByte(int index) throws IndexOutOfBoundsException {
        if (index < 0 || index >= output.length()) {
            throw new IndexOutOfBoundsException("the output has no such byte");
        }
        return output.charAt(index);
    }

    // ---- what calls require

    private void requireMule(int mule) {
        if (mule < 0 || mule >= now.mules.used) {
            throw new NoSuchElementException("there is no such mule");
        }
    }

    private void requireSack(int sack) {
        if (sack < 0 || sack >= now.sacks.used) {
            throw new NoSuchElementException("there is no such sack");
        }
    }

    private void requireStage(int stage) {
        if (stage < 0 || stage >= now.stages.used) {
            throw new NoSuchElementException("there is no such stage");
        }
    }

    private void requireSetting(int which) {
        if (which < 0 || which >= SETTINGS) {
            throw new IllegalArgumentException("there is no such setting");
        }
    }

    private void requireSlot(int slot) {
        if (slot < 0 || slot >= SLOTS) {
            throw new IllegalArgumentException("there is no such slot");
        }
    }

    private void requireOnMule(int sack) {
        if (now.sacks.at(sack, PLACE) != ON_MULE) {
            throw new IllegalStateException("the sack is on no mule");
        }
    }

    // ---- ranges and words

    private static int mostOfSetting(int which) {
        return which == TILT ? 99 : 50;
    }

    private static int mostOfStage(int kind) {
        if (kind == ROAD) {
            return 99;
        }
        return kind == FORD ? DEEPEST_FORD : 24;
    }

    private static String stageWord(int kind) {
        if (kind == ROAD) {
            return "road";
        }
        return kind == FORD ? "ford" : "camp";
    }

    /** Rows of numbers, each as wide as the others; a place outside of them is never touched. */
    private static final class Rows {
        private final int width;
        private final int[] cells;
        private int used;

        Rows(int most, int width) {
            this.width = width;
            this.cells = new int[most < 0 || width < 0 ? 0 : most * width];
        }

        boolean isFull() {
            return (used + 1) * width > cells.length;
        }

        int at(int row, int column) {
            if (row < 0 || row >= used || column < 0 || column >= width) {
                return NONE;
            }
            int index = row * width + column;
            return index < cells.length ? cells[index] : NONE;
        }

        void put(int row, int column, int number) {
            if (row < 0 || row >= used || column < 0 || column >= width) {
                return;
            }
            int index = row * width + column;
            if (index < cells.length) {
                cells[index] = number;
            }
        }

        /** Adds a row of zeros and tells its number; NONE if there is no room for it. */
        int newRow() {
            if (isFull()) {
                return NONE;
            }
            int row = used;
            used++;
            for (int column = 0; column < width; column++) {
                put(row, column, 0);
            }
            return row;
        }

        void dropRow(int row) {
            if (row < 0 || row >= used) {
                return;
            }
            for (int next = row + 1; next < used; next++) {
                for (int column = 0; column < width; column++) {
                    put(next - 1, column, at(next, column));
                }
            }
            used--;
        }

        void emptyRows() {
            used = 0;
        }

        void copyRows(Rows other) {
            if (other.cells.length == cells.length && other.width == width) {
                System.arraycopy(other.cells, 0, cells, 0, cells.length);
                used = other.used;
            }
        }
    }

    /** What undo() brings back stands in one object, so that undo, save and what would be are copies of it. */
    private static final class Train {
        private final Rows sacks = new Rows(MOST_SACKS, SACK_FACTS);
        private final Rows mules = new Rows(MOST_MULES, MULE_FACTS);
        private final Rows stages = new Rows(MOST_STAGES, STAGE_FACTS);
        private final int[] settings = new int[SETTINGS];
        private final int[] counts = new int[COUNTS];
        private int day;
        private int money;

        void become(Train other) {
            sacks.copyRows(other.sacks);
            mules.copyRows(other.mules);
            stages.copyRows(other.stages);
            System.arraycopy(other.settings, 0, settings, 0, SETTINGS);
            System.arraycopy(other.counts, 0, counts, 0, COUNTS);
            day = other.day;
            money = other.money;
        }

        void beginAnew() {
            sacks.emptyRows();
            mules.emptyRows();
            stages.emptyRows();
            for (int which = 0; which < SETTINGS; which++) {
                settings[which] = 0;
            }
            for (int what = 0; what < COUNTS; what++) {
                counts[what] = 0;
            }
            day = 0;
            money = 0;
        }

        int newSack(int kind, int weight, int worth) {
            int sack = sacks.newRow();
            sacks.put(sack, KIND, kind);
            sacks.put(sack, WEIGHT, weight);
            sacks.put(sack, WORTH, worth);
            sacks.put(sack, PLACE, IN_STORE);
            sacks.put(sack, CARRIER, NONE);
            sacks.put(sack, SIDE, NONE);
            sacks.put(sack, END_DAY, NONE);
            sacks.put(sack, TOLD_WORTH, worth);
            return sack;
        }

        int newStage(int kind, int number) {
            int stage = stages.newRow();
            stages.put(stage, STAGE_KIND, kind);
            stages.put(stage, STAGE_NUMBER, number);
            return stage;
        }

        int letterOf(int mule, int index) {
            if (index < 0 || index >= mules.at(mule, LETTERS)) {
                return NONE;
            }
            return mules.at(mule, FIRST_LETTER + index);
        }

        int sacksIn(int place) {
            int quantity = 0;
            for (int sack = 0; sack < sacks.used; sack++) {
                quantity += sacks.at(sack, PLACE) == place ? 1 : 0;
            }
            return quantity;
        }

        int miles() {
            int together = 0;
            for (int stage = 0; stage < stages.used; stage++) {
                together += stages.at(stage, STAGE_KIND) == ROAD ? stages.at(stage, STAGE_NUMBER) : 0;
            }
            return together;
        }

        int tiredTogether() {
            int together = 0;
            for (int mule = 0; mule < mules.used; mule++) {
                together += mules.at(mule, TIRED);
            }
            return together;
        }

        int bearing(int mule) {
            return mules.at(mule, STRENGTH) * (100 - mules.at(mule, TIRED)) / 100;
        }

        int fordLimit(int mule, int depth) {
            return bearing(mule) * (10 - depth) / 10;
        }

        int weightOn(int mule, int side) {
            int weight = 0;
            for (int sack = 0; sack < sacks.used; sack++) {
                if (sacks.at(sack, CARRIER) == mule && sacks.at(sack, SIDE) == side) {
                    weight += sacks.at(sack, WEIGHT);
                }
            }
            return weight;
        }

        int loadOn(int mule) {
            int weight = 0;
            for (int sack = 0; sack < sacks.used; sack++) {
                weight += sacks.at(sack, CARRIER) == mule ? sacks.at(sack, WEIGHT) : 0;
            }
            return weight;
        }

        int worthOn(int mule) {
            int worth = 0;
            for (int sack = 0; sack < sacks.used; sack++) {
                worth += sacks.at(sack, CARRIER) == mule ? sacks.at(sack, WORTH) : 0;
            }
            return worth;
        }

        int sacksOn(int mule) {
            int quantity = 0;
            for (int sack = 0; sack < sacks.used; sack++) {
                quantity += sacks.at(sack, CARRIER) == mule ? 1 : 0;
            }
            return quantity;
        }

        /** How much heavier the left side is than the right one; below 0 if it is lighter. */
        int leftward(int mule) {
            int weight = 0;
            for (int sack = 0; sack < sacks.used; sack++) {
                if (sacks.at(sack, CARRIER) == mule) {
                    weight += sacks.at(sack, SIDE) == LEFT ? sacks.at(sack, WEIGHT) : -sacks.at(sack, WEIGHT);
                }
            }
            return weight;
        }

        boolean isLevel(int mule) {
            return Math.abs(leftward(mule)) <= settings[TILT];
        }

        int lighterSide(int mule) {
            return leftward(mule) > 0 ? RIGHT : LEFT;
        }

        int worthGap() {
            int worth = counts[WORTH_DELIVERED] + counts[WORTH_LOST] + counts[WORTH_WETTED] + counts[WORTH_BROKEN];
            int told = 0;
            for (int sack = 0; sack < sacks.used; sack++) {
                int place = sacks.at(sack, PLACE);
                told += sacks.at(sack, TOLD_WORTH);
                worth += place == IN_STORE || place == ON_MULE ? sacks.at(sack, WORTH) : 0;
            }
            return Math.abs(told - worth);
        }

        int moneyGap() {
            return Math.abs(money - (counts[WORTH_DELIVERED] - counts[WAGES]));
        }

        int overload() {
            int together = 0;
            for (int mule = 0; mule < mules.used; mule++) {
                together += Math.max(0, loadOn(mule) - bearing(mule));
            }
            return together;
        }

        int reasonNotToPack(int sack, int mule) {
            if (sacks.at(sack, PLACE) != IN_STORE) {
                return NOT_IN_STORE;
            }
            return loadOn(mule) + sacks.at(sack, WEIGHT) > bearing(mule) ? TOO_HEAVY : 0;
        }

        int reasonNotToGo() {
            if (mulesWithSacks() == 0) {
                return NO_SACKS;
            }
            return firstUnlevel() == NONE ? 0 : NOT_LEVEL;
        }

        boolean mayTravel() {
            return reasonNotToGo() == 0 && day < MOST_DAY;
        }

        int firstUnlevel() {
            for (int mule = 0; mule < mules.used; mule++) {
                if (Math.abs(leftward(mule)) > settings[TILT]) {
                    return mule;
                }
            }
            return NONE;
        }

        /** A bit for each of them, as a trip must know who began it when their sacks are gone. */
        private int mulesWithSacks() {
            int bits = 0;
            for (int sack = 0; sack < sacks.used; sack++) {
                int mule = sacks.at(sack, CARRIER);
                bits |= mule >= 0 ? 1 << mule : 0;
            }
            return bits;
        }

        int bestFor(int mule) {
            int best = NONE;
            for (int sack = 0; sack < sacks.used; sack++) {
                if (reasonNotToPack(sack, mule) == 0 && (best == NONE || isBetter(sack, best))) {
                    best = sack;
                }
            }
            return best;
        }

        /** Fractions are compared crosswise, as a division would lose what is behind the point. */
        private boolean isBetter(int sack, int other) {
            int worth = sacks.at(sack, WORTH) * sacks.at(other, WEIGHT);
            return worth > sacks.at(other, WORTH) * sacks.at(sack, WEIGHT);
        }

        void putOn(int sack, int mule, int side) {
            sacks.put(sack, PLACE, ON_MULE);
            sacks.put(sack, CARRIER, mule);
            sacks.put(sack, SIDE, side);
        }

        void takeOff(int sack, int place) {
            sacks.put(sack, PLACE, place);
            sacks.put(sack, CARRIER, NONE);
            sacks.put(sack, SIDE, NONE);
        }

        int packBest(int mule) {
            for (int packed = 0; packed < MOST_SACKS; packed++) {
                int best = bestFor(mule);
                if (best == NONE) {
                    return packed;
                }
                putOn(best, mule, lighterSide(mule));
            }
            return MOST_SACKS;
        }

        void stayFor(int days) {
            day += days;
            for (int mule = 0; mule < mules.used; mule++) {
                easeBy(mule, settings[EASE] * days);
            }
        }

        private void easeBy(int mule, int less) {
            mules.put(mule, TIRED, Math.max(0, mules.at(mule, TIRED) - less));
        }

        /** Makes a trip, even one that may not begin, and tells how much MONEY became more. */
        int travel() {
            int before = money;
            int goers = mulesWithSacks();
            for (int stage = 0; stage < stages.used; stage++) {
                int kind = stages.at(stage, STAGE_KIND);
                int number = stages.at(stage, STAGE_NUMBER);
                for (int mule = 0; mule < mules.used; mule++) {
                    if ((goers >> mule & 1) == 0) {
                        continue;
                    }
                    if (kind == ROAD) {
                        goRoad(mule, number);
                    } else if (kind == FORD) {
                        crossFord(mule, number);
                    } else {
                        easeBy(mule, settings[EASE] * number / 10);
                    }
                }
            }
            deliverLoads();
            payWages(Integer.bitCount(goers));
            counts[TRIPS]++;
            day++;
            return money - before;
        }

        private void goRoad(int mule, int miles) {
            int strength = mules.at(mule, STRENGTH);
            int part = strength <= 0 ? 0 : loadOn(mule) * 10 / strength;
            int tired = mules.at(mule, TIRED) + miles * (part + 1) / 10;
            mules.put(mule, TIRED, Math.min(MOST_TIRED, tired));
            shedTo(mule, bearing(mule));
        }

        private void crossFord(int mule, int depth) {
            boolean shaken = shedTo(mule, fordLimit(mule, depth));
            for (int sack = 0; sack < sacks.used; sack++) {
                if (sacks.at(sack, CARRIER) != mule) {
                    continue;
                }
                if (shaken && sacks.at(sack, KIND) == GLASS) {
                    counts[WORTH_BROKEN] += sacks.at(sack, WORTH);
                    sacks.put(sack, WORTH, 0);
                }
                if (depth >= WETTING_DEPTH) {
                    wetSack(sack);
                }
            }
        }

        private void wetSack(int sack) {
            int dry = sacks.at(sack, WORTH);
            int kind = sacks.at(sack, KIND);
            int wet = dry;
            if (kind == GRAIN) {
                wet = dry / 2;
            } else if (kind == CLOTH) {
                wet = dry * 3 / 4;
            }
            sacks.put(sack, WORTH, wet);
            counts[WORTH_WETTED] += dry - wet;
            counts[WETTINGS]++;
        }

        /** Tells whether a sack was lost. */
        private boolean shedTo(int mule, int limit) {
            int load = loadOn(mule);
            boolean shed = false;
            for (int lost = 0; lost < MOST_SACKS && load > limit; lost++) {
                int sack = leastOn(mule);
                load -= sacks.at(sack, WEIGHT);
                counts[WORTH_LOST] += sacks.at(sack, WORTH);
                takeOff(sack, LOST);
                sacks.put(sack, END_DAY, day);
                shed = true;
            }
            return shed;
        }

        private int leastOn(int mule) {
            int least = NONE;
            for (int sack = 0; sack < sacks.used; sack++) {
                boolean isOn = sacks.at(sack, CARRIER) == mule;
                if (isOn && (least == NONE || sacks.at(sack, WORTH) < sacks.at(least, WORTH))) {
                    least = sack;
                }
            }
            return least;
        }

        private void deliverLoads() {
            for (int sack = 0; sack < sacks.used; sack++) {
                if (sacks.at(sack, PLACE) == ON_MULE) {
                    money += sacks.at(sack, WORTH);
                    counts[WORTH_DELIVERED] += sacks.at(sack, WORTH);
                    takeOff(sack, DELIVERED);
                    sacks.put(sack, END_DAY, day);
                }
            }
        }

        private void payWages(int goers) {
            money -= goers * settings[WAGE];
            counts[WAGES] += goers * settings[WAGE];
        }
    }

    /** The trains as they were before the latest changes, in a ring. */
    private static final class History {
        private final Train[] before = new Train[MOST_UNDOS];
        private int next;
        private int size;

        History() {
            for (int index = 0; index < MOST_UNDOS; index++) {
                before[index] = new Train();
            }
        }

        void forget() {
            size = 0;
        }

        void remember(Train train) {
            if (next < 0 || next >= MOST_UNDOS || before[next] == null) {
                return;
            }
            before[next].become(train);
            next = next + 1 < MOST_UNDOS ? next + 1 : 0;
            size = Math.min(size + 1, MOST_UNDOS);
        }

        void bringBack(Train train) {
            int latest = next > 0 ? next - 1 : MOST_UNDOS - 1;
            if (size <= 0 || latest >= MOST_UNDOS || before[latest] == null) {
                return;
            }
            train.become(before[latest]);
            next = latest;
            size--;
        }
    }

    /** The input buffer, and what it describes: a train of its own, until the first error. */
    private static final class Parser {
        private final byte[] bytes = new byte[MOST_TEXT];
        private final Train train = new Train();
        private int fed;
        private int length;
        private int position;
        private int start;
        private int token;
        private int number;
        private int latestRunEnd;
        private int code;
        private int errorAt = NONE;

        void writeFour(int four) {
            writeByte(four >> 24);
            writeByte(four >> 16);
            writeByte(four >> 8);
            writeByte(four);
        }

        void writeText(String text) {
            for (int index = 0; index < text.length(); index++) {
                writeByte(text.charAt(index));
            }
        }

        private void writeByte(int number) {
            if (fed >= 0 && fed < MOST_TEXT) {
                bytes[fed] = (byte) number;
                fed++;
            }
        }

        void emptyText() {
            fed = 0;
        }

        /** The line of a trip is done here and not in a method of its own, so that calls stay less than eight deep. */
        void parseText(int textLength) {
            beginText(textLength);
            parseHead();
            for (int line = 0; line < MOST_TEXT && code == 0 && token == SEMICOLON; line++) {
                nextToken();
                if (isWord("mule")) {
                    parseMule();
                } else if (isWord("sack")) {
                    parseSack();
                } else if (isWord("road")) {
                    parseStage(ROAD);
                } else if (isWord("ford")) {
                    parseStage(FORD);
                } else if (isWord("camp")) {
                    parseStage(CAMP);
                } else if (isWord("pack")) {
                    parsePack();
                } else if (isWord("rest")) {
                    parseRest();
                } else if (!isWord("trip")) {
                    noteError(SYNTAX);
                } else if (!train.mayTravel()) {
                    noteError(REFUSED);
                } else {
                    train.travel();
                }
                endLine();
            }
        }

        private void beginText(int textLength) {
            train.beginAnew();
            length = textLength;
            position = 0;
            latestRunEnd = NONE;
            code = 0;
            errorAt = NONE;
        }

        private void noteError(int found) {
            if (code == 0) {
                code = found;
                errorAt = start;
            }
        }

        private void parseHead() {
            nextToken();
            if (!isWord("train")) {
                noteError(SYNTAX);
            }
            for (int which = 0; which < SETTINGS; which++) {
                train.settings[which] = parseNumber(0, mostOfSetting(which));
            }
            endLine();
        }

        private void endLine() {
            if (code != 0) {
                return;
            }
            nextToken();
            if (token != END && token != SEMICOLON) {
                noteError(SYNTAX);
            }
        }

        private void parseMule() {
            if (train.mules.isFull()) {
                noteError(LIMIT);
            }
            parseName();
            if (code == 0 && muleOfName() != NONE) {
                noteError(TAKEN);
            }
            if (code != 0) {
                return;
            }
            int mule = train.mules.newRow();
            train.mules.put(mule, LETTERS, position - start);
            for (int index = 0; index < position - start; index++) {
                train.mules.put(mule, FIRST_LETTER + index, byteAt(start + index));
            }
            train.mules.put(mule, STRENGTH, parseNumber(LEAST_STRENGTH, MOST_STRENGTH));
        }

        private void parseSack() {
            if (train.sacks.isFull()) {
                noteError(LIMIT);
            }
            int kind = parseKind();
            int weight = parseNumber(1, MOST_WEIGHT);
            int worth = parseNumber(0, MOST_WORTH);
            if (code == 0) {
                train.newSack(kind, weight, worth);
            }
        }

        private void parseStage(int kind) {
            if (train.stages.isFull()) {
                noteError(LIMIT);
            }
            int many = parseNumber(1, mostOfStage(kind));
            if (code == 0) {
                train.newStage(kind, many);
            }
        }

        private void parsePack() {
            int sack = parseNumber(0, train.sacks.used - 1);
            parseName();
            int mule = code == 0 ? muleOfName() : NONE;
            if (mule == NONE) {
                noteError(UNKNOWN);
            } else if (train.reasonNotToPack(sack, mule) != 0) {
                noteError(REFUSED);
            }
            int side = parseSide();
            if (code == 0) {
                train.putOn(sack, mule, side);
            }
        }

        private void parseRest() {
            int days = parseNumber(1, Math.min(MOST_REST, MOST_DAY - train.day));
            if (code == 0) {
                train.stayFor(days);
            }
        }

        /** Behind an error nothing is read any more: its position is the least. */
        private int parseNumber(int least, int most) {
            if (code != 0) {
                return 0;
            }
            nextToken();
            if (token != NUMBER) {
                noteError(SYNTAX);
            } else if (number < least || number > most) {
                noteError(RANGE);
            }
            return number;
        }

        private void parseName() {
            if (code != 0) {
                return;
            }
            nextToken();
            if (token != WORD || position - start > MOST_LETTERS) {
                noteError(SYNTAX);
            }
        }

        private int parseKind() {
            if (code != 0) {
                return NONE;
            }
            nextToken();
            if (isWord("grain")) {
                return GRAIN;
            } else if (isWord("cloth")) {
                return CLOTH;
            } else if (isWord("iron")) {
                return IRON;
            } else if (isWord("glass")) {
                return GLASS;
            }
            noteError(SYNTAX);
            return NONE;
        }

        private int parseSide() {
            if (code != 0) {
                return NONE;
            }
            nextToken();
            if (isWord("left")) {
                return LEFT;
            } else if (isWord("right")) {
                return RIGHT;
            }
            noteError(SYNTAX);
            return NONE;
        }

        private int muleOfName() {
            for (int mule = 0; mule < train.mules.used; mule++) {
                if (isNameOf(mule)) {
                    return mule;
                }
            }
            return NONE;
        }

        private boolean isNameOf(int mule) {
            if (train.mules.at(mule, LETTERS) != position - start) {
                return false;
            }
            for (int index = 0; index < position - start; index++) {
                if (train.letterOf(mule, index) != byteAt(start + index)) {
                    return false;
                }
            }
            return true;
        }

        private boolean isWord(String word) {
            if (token != WORD || word.length() != position - start) {
                return false;
            }
            for (int index = 0; index < word.length(); index++) {
                if (word.charAt(index) != byteAt(start + index)) {
                    return false;
                }
            }
            return true;
        }

        /** A run that no rule can take (glued to another one, or of too many digits) is a BAD token. */
        private void nextToken() {
            skipBlanks();
            start = position;
            token = sortOf(byteAt(position));
            if (token == SEMICOLON) {
                position++;
            } else if (token == WORD || token == NUMBER) {
                boolean glued = start == latestRunEnd;
                passRun();
                latestRunEnd = position;
                if (glued || (token == NUMBER && position - start > MOST_DIGITS)) {
                    token = BAD;
                }
            }
        }

        private void skipBlanks() {
            while (position < length && (byteAt(position) == ' ' || byteAt(position) == '\n')) {
                position++;
            }
        }

        private void passRun() {
            number = 0;
            while (position < length && sortOf(byteAt(position)) == token) {
                number = token == NUMBER ? number * 10 + byteAt(position) - '0' : 0;
                position++;
            }
        }

        /** The byte without sign; NONE behind the text. */
        private int byteAt(int index) {
            if (index < 0 || index >= length || index >= MOST_TEXT) {
                return NONE;
            }
            return bytes[index] & 255;
        }

        private static int sortOf(int sign) {
            if (sign >= 'a' && sign <= 'z') {
                return WORD;
            } else if (sign >= '0' && sign <= '9') {
                return NUMBER;
            } else if (sign == ';') {
                return SEMICOLON;
            }
            return sign == NONE ? END : BAD;
        }
    }
}
