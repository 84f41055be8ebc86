/** The boundaries of section 6 DESCRIPTIONS and of the sentences behind it. */
final class BoundaryTexts extends Boundary {
    /** A mule a of STRENGTH 50, a mule b of 10, and the sacks 0 and 1 of the WEIGHTs 10 and 11. */
    private static final String PACKED = HEAD + ";mule a 50;mule b 10;sack iron 10 5;sack iron 11 5";
    private static final String MULES = HEAD + ";mule a 10;mule b 10;mule c 10;mule d 10;mule e 10;mule f 10";
    private static final String SACKS = HEAD + ";sack iron 1 1".repeat(16);
    private static final String STAGES = HEAD + ";road 1;ford 1;camp 1;road 1;ford 1;camp 1;road 1;ford 1";

    static void run() {
        descriptionWithoutLines();
        descriptionOfManyLines();
        linesOfEachKind();
        kinds();
        sides();
        settingsInTheirOrder();
        restDays();
        whatTheLinesDo();
        inTheOrderOfTheLines();
        lettersAndDigits();
        asLongAsPossible();
        blanks();
        blanksAreNeeded();
        leastPosition();
        leastCode();
        syntaxOfTokens();
        syntaxOfNames();
        syntaxOfTokensWithoutBlank();
        syntaxOfDigits();
        syntaxOfOtherBytes();
        syntaxAtTheEnd();
        rangeOfSacks();
        rangeOfDays();
        unknown();
        taken();
        limit();
        refusedPack();
        refusedTrip();
        firstException();
        callsThatThrow();
        newTrain();
        none();
    }

    private static void descriptionWithoutLines() {
        sentence("Section 6", "description = \"train\" NUMBER NUMBER NUMBER { \";\" line }");
        due("sacks of no lines", loaded("train 1 2 3").value(1), 0);
        error(1, "train 1 2^");
        error(1, "train 1 2 3 ^4");
        error(1, "train 1 2 3;^");
        error(1, "train 1 2 3;^;trip");
        error(1, "^1 2 3");
        error(1, "^mule a 10");
        error(1, "train 1 2 3 ^mule a 10");
        error(1, "train 1 2 3;^train 1 2 3");
    }

    private static void descriptionOfManyLines() {
        sentence("Section 6", "({ X } means any number of X, | separates alternatives)");
        due("one line", loaded("train 1 2 3;rest 1").value(7), 1);
        // 11 bytes and 98 times 7 are 697; with three blanks the text is as long as the buffer.
        MuleTrain t = loaded("train 1 2 3" + ";rest 1".repeat(98) + "   ");
        due("98 lines", t.value(7), 98);
        error(1, "train 1 2 3" + ";rest 1".repeat(98) + " ;^");
    }

    private static void linesOfEachKind() {
        sentence("Section 6", "line = \"mule\" NAME NUMBER | \"sack\" KIND NUMBER NUMBER | \"road\" NUMBER | \"ford\" NUMBER | \"camp\" NUMBER | \"pack\" NUMBER NAME SIDE | \"trip\" | \"rest\" NUMBER");
        String[] lines = {"mule c 10", "sack iron 1 1", "road 1", "ford 1", "camp 1", "pack 0 a left", "rest 1"};
        for (String line : lines) {
            due("errorCode() of " + line, loaded(PACKED + ";" + line).errorCode(), 0);
            error(1, PACKED + ";" + line + " ^1");
            error(1, PACKED + ";" + line + " ^a");
            error(1, PACKED + ";" + line.substring(0, line.lastIndexOf(' ')) + "^");
            error(1, PACKED + ";" + line.substring(0, line.lastIndexOf(' ')) + "^;trip");
            error(1, PACKED + ";^" + line.substring(0, 3) + line.substring(4));
        }
        error(1, "train 99 0 0;mule a 90;sack iron 1 1;pack 0 a left;trip ^1");
        error(1, "train 99 0 0;mule a 90;sack iron 1 1;pack 0 a left;trip ^trip");
        due("trips", loaded("train 99 0 0;mule a 90;sack iron 1 1;pack 0 a left;trip").count(0), 1);
    }

    private static void kinds() {
        sentence("Section 6", "KIND = \"grain\" | \"cloth\" | \"iron\" | \"glass\"");
        String[] words = {"grain", "cloth", "iron", "glass"};
        for (int kind = 0; kind <= 3; kind++) {
            due("kind " + words[kind], loaded(HEAD + ";sack " + words[kind] + " 1 1").sack(0, 0), kind);
            error(1, HEAD + ";sack ^" + words[kind] + "s 1 1");
            error(1, HEAD + ";sack ^" + words[kind].substring(1) + " 1 1");
            error(1, HEAD + ";sack ^" + words[kind].substring(0, 3) + " 1 1");
        }
        error(1, HEAD + ";sack ^0 1 1");
    }

    private static void sides() {
        sentence("Section 6", "SIDE = \"left\" | \"right\"");
        due("side left", loaded(PACKED + ";pack 0 a left").sack(0, 5), 0);
        due("side right", loaded(PACKED + ";pack 0 a right").sack(0, 5), 1);
        for (String word : new String[] {"lef", "lefts", "righ", "rights", "up", "0", "1", ";"}) {
            error(1, PACKED + ";pack 0 a ^" + word);
        }
    }

    private static void settingsInTheirOrder() {
        sentence("Section 6", "The numbers behind \"train\" are the settings in their order.");
        MuleTrain t = loaded("train 99 50 49");
        int[] due = {99, 50, 49};
        for (int which = 0; which <= 2; which++) {
            due("setting(" + which + ")", t.setting(which), due[which]);
        }
        error(2, "train ^100 51 51");
        error(2, "train 99 ^51 51");
        error(2, "train 99 50 ^51");
    }

    private static void restDays() {
        sentence("Section 6", "\"rest\" rests for some days (1 to 99).");
        rangeInText(1, 99, HEAD + ";rest #");
        due("DAY behind the least", loaded(HEAD + ";rest 1").value(7), 1);
        due("DAY behind the most", loaded(HEAD + ";rest 99").value(7), 99);
    }

    private static void whatTheLinesDo() {
        sentence("Section 6", "\"mule\" adds a mule with its STRENGTH, \"sack\" a sack with WEIGHT and WORTH; \"road\", \"ford\" and \"camp\" add a stage behind the others;"
            + " \"pack\" packs a sack on a side of a mule; \"trip\" makes a trip;");
        MuleTrain t = loaded("train 99 50 1;mule a 300;mule b 10;sack glass 99 999;sack grain 1 0;road 99;ford 1;camp 24;pack 0 a right;pack 1 b left");
        due("STRENGTH of the first", t.mule(0, 0), 300);
        due("STRENGTH of the second", t.mule(1, 0), 10);
        due("WEIGHT of the first", t.sack(0, 1), 99);
        due("WORTH of the first", t.sack(0, 2), 999);
        due("WEIGHT of the second", t.sack(1, 1), 1);
        due("WORTH of the second", t.sack(1, 2), 0);
        int[] numbers = {99, 1, 24};
        for (int stage = 0; stage < 3; stage++) {
            due("kind of the stage " + stage, t.stage(stage, 0), stage);
            due("number of the stage " + stage, t.stage(stage, 1), numbers[stage]);
        }
        due("mule and side of the first", 10 * t.sack(0, 4) + t.sack(0, 5), 1);
        due("mule and side of the second", 10 * t.sack(1, 4) + t.sack(1, 5), 10);
        MuleTrain trip = loaded("train 99 50 1;mule a 300;mule b 10;sack glass 99 999;sack grain 1 0;pack 0 a right;pack 1 b left;trip");
        due("MONEY behind the trip", trip.value(8), 997);
        due("DAY behind the trip", trip.value(7), 1);
        due("trips", trip.count(0), 1);
    }

    private static void inTheOrderOfTheLines() {
        sentence("Section 6", "All is done in the order of the lines.");
        String mule = ";mule a 10";
        String sack = ";sack iron 9 1";
        String pack = ";pack 0 a left";
        due("PLACE behind sack, mule, pack", loaded(TILTED + sack + mule + pack).sack(0, 3), 1);
        error(3, TILTED + sack + ";pack 0 ^a left" + mule);
        error(2, TILTED + mule + ";pack ^0 a left" + sack);
        error(6, TILTED + mule + sack + ";^trip" + pack);
        due("PLACE of a trip ahead of its ford", loaded(TILTED + mule + sack + pack + ";trip;ford 9").sack(0, 3), 2);
        due("PLACE of a trip behind its ford", loaded(TILTED + mule + sack + pack + ";ford 9;trip").sack(0, 3), 3);
    }

    private static void lettersAndDigits() {
        sentence("Section 6", "A token is a word (a run of letters a to z), a number (a run of digits), or a semicolon");
        MuleTrain t = loaded("train 0 9 0;mule az 10;mule za 19");
        due("the first letter of the alphabet", t.nameByte(0, 0), 'a');
        due("the last letter of the alphabet", t.nameByte(0, 1), 'z');
        due("the digits 0 and 9", t.setting(1), 9);
        // The bytes one below and one above: 96 and 123 of the letters, 47 and 58 of the digits, 58 and 60 of the semicolon.
        for (char odd : new char[] {96, 123, 'A', 'Z'}) {
            error(1, "train 0 0 0;mule ^" + odd + " 10");
            error(1, "train 0 0 0;mule a^" + odd + " 10");
        }
        for (char odd : new char[] {47, 58}) {
            error(1, "train ^" + odd + " 0 0");
            error(1, "train 9^" + odd + " 0 0");
        }
        error(1, "train 0 0 0^:rest 1");
        error(1, "train 0 0 0^<rest 1");
    }

    private static void asLongAsPossible() {
        sentence("Section 6", "and is as long as possible");
        error(1, "^traintrain 0 0 0");
        error(2, "train 0 0 ^51");
        due("number of all its digits", loaded(HEAD + ";mule a 109").mule(0, 0), 109);
        due("letters of a name", loaded(HEAD + ";mule abc 10").mule(0, 9), 3);
        error(1, HEAD + ";^restrest 1");
        error(1, HEAD + ";^tripp");
    }

    private static void blanks() {
        sentence("Section 6", "Spaces (byte 32) and line feeds (byte 10) may stand between any two tokens and at both ends.");
        String[] tokens = {"train", "99", "0", "0", ";", "mule", "a", "10", ";", "sack", "iron", "1", "1", ";", "pack", "0", "a", "left", ";", "trip", ";", "rest", "3"};
        for (String blank : new String[] {" ", "\n", "  ", "\n\n", " \n", "\n "}) {
            MuleTrain t = loaded(blank + String.join(blank, tokens) + blank);
            due("DAY behind a text with blanks at both ends", t.value(7), 4);
            MuleTrain inside = loaded(String.join(blank, tokens));
            due("DAY behind a text with blanks inside", inside.value(7), 4);
        }
        for (char odd : new char[] {0, 9, 11, 13, 31, 33, 160}) {
            error(1, "^" + odd + HEAD);
            error(1, "train^" + odd + "0 0 0");
            error(1, HEAD + "^" + odd);
        }
    }

    private static void blanksAreNeeded() {
        sentence("Section 6", "A word or number directly behind a word or number needs at least one of them between.");
        error(1, "train^0 0 0");
        error(1, "train 0 0 0^a");
        error(1, HEAD + ";rest^1");
        error(1, HEAD + ";mule^1 10");
        error(1, HEAD + ";mule a^10");
        error(1, PACKED + ";pack^0 a left");
        error(1, PACKED + ";pack 0^a left");
        error(1, PACKED + ";sack iron^1 1");
        due("no blank at semicolons", loaded("train 0 0 0;mule a 10;rest 1;rest 1").value(7), 2);
        due("one blank", loaded("train 0\n0 0;mule\na\n10").value(0), 1);
    }

    private static void leastPosition() {
        sentence("Section 6", "The error with the least position (byte index from 0; of a token its first byte) is reported");
        error(1, "^A");
        error(1, "^trains A");
        error(2, "train ^100 1000 A");
        error(2, "train 0 0 0;road ^100 5");
        error(5, MULES + ";^mule a 9");
        error(4, HEAD + ";mule a 10;mule ^a 1000");
        error(3, PACKED + ";pack 0 ^c up");
        error(6, PACKED + ";pack 1 ^b up");
        error(6, PACKED + ";^trip trip");
        error(2, PACKED + ";pack ^2 c up");
        error(2, HEAD + ";mule a ^301;mule a 10");
    }

    private static void leastCode() {
        sentence("Section 6", "of several at one position the least code");
        // SYNTAX and RANGE: four digits, and a number that lacks a blank.
        error(1, "train ^1000 0 0");
        error(1, HEAD + ";rest^0");
        error(1, HEAD + ";rest^100");
        // SYNTAX and UNKNOWN, SYNTAX and REFUSED: names of seven letters, or without a blank.
        error(1, PACKED + ";pack 0 ^abcdefg left");
        error(1, PACKED + ";pack 0^c left");
        error(1, PACKED + ";pack 1^b left");
        // SYNTAX and LIMIT: words that begin like a line that is one too many.
        error(1, MULES + ";^mules g 10");
        error(1, SACKS + ";^sac iron 1 1");
        error(1, STAGES + ";^roads 1");
    }

    private static void syntaxOfTokens() {
        sentence("Section 6", "1 SYNTAX: a token that the grammar does not allow there");
        error(1, "^;");
        error(1, "^0");
        error(1, "^a");
        error(1, "train ^; 0 0");
        error(1, "train ^a 0 0");
        error(1, "train 0 0 ^left");
        error(1, HEAD + ";^;");
        error(1, HEAD + ";^1");
        error(1, HEAD + ";^a");
        error(1, HEAD + ";rest ^a");
        error(1, HEAD + ";mule ^;");
        error(1, PACKED + ";pack 0 ^1 left");
    }

    private static void syntaxOfNames() {
        sentence("Section 6", "(also a word of more than 6 letters as a NAME)");
        due("mules of a name of 6", loaded(HEAD + ";mule abcdef 10").value(0), 1);
        error(1, HEAD + ";mule ^abcdefg 10");
        error(1, HEAD + ";mule ^" + "a".repeat(670) + " 10");
        due("PLACE packed by a name of 6", loaded(HEAD + ";mule abcdef 10;sack iron 1 1;pack 0 abcdef left").sack(0, 3), 1);
        error(1, HEAD + ";mule abcdef 10;sack iron 1 1;pack 0 ^abcdefg left");
        error(3, HEAD + ";mule abcdef 10;sack iron 1 1;pack 0 ^abcdeg left");
        error(3, HEAD + ";mule abcdef 10;sack iron 1 1;pack 0 ^abcde left");
    }

    private static void syntaxOfTokensWithoutBlank() {
        sentence("Section 6", "a word or number directly behind a word or number; a number of more than 3 digits");
        due("DAY of a number behind a blank", loaded(HEAD + ";rest 1").value(7), 1);
        error(1, HEAD + ";rest^1");
        error(1, HEAD + ";rest 1^a");
        error(1, HEAD + ";rest 1^rest 1");
        error(1, HEAD + ";mule a^50");
        error(1, PACKED + ";pack 0 a^0");
        error(1, PACKED + ";pack 0 a left^0");
        error(1, PACKED + ";pack 0 a left^0left");
    }

    private static void syntaxOfDigits() {
        sentence("Section 6", "a number of more than 3 digits");
        due("a number of 3 digits", loaded("train 099 0 0").setting(0), 99);
        due("000", loaded("train 000 000 000").setting(0), 0);
        error(1, "train ^0099 0 0");
        error(1, "train ^0000 0 0");
        error(1, "train ^1000 0 0");
        error(2, "train ^999 0 0");
        // 2 to the 32nd, and digits to the end of the buffer, are not 0.
        error(1, "train ^4294967296 0 0");
        error(1, "train ^" + "0".repeat(694));
    }

    private static void syntaxOfOtherBytes() {
        sentence("Section 6", "any other byte");
        for (int sign = 0; sign <= 255; sign++) {
            boolean blank = sign == 32 || sign == 10;
            boolean digit = sign >= '0' && sign <= '9';
            if (!blank && !digit && sign != ';') {
                error(1, "train 0 0 0^" + (char) sign);
            }
        }
    }

    private static void syntaxAtTheEnd() {
        sentence("Section 6", "the end of the text where more is needed (position: the length)");
        error(1, "^");
        error(1, " ^");
        error(1, " ".repeat(700) + "^");
        error(1, "train^");
        error(1, "train ^");
        error(1, "train 0 0^");
        error(1, "train 0 0 \n^");
        error(1, HEAD + ";^");
        error(1, HEAD + "; ^");
        due("errorCode() where no more is needed", loaded(HEAD + " ").errorCode(), 0);
    }

    private static void rangeOfSacks() {
        sentence("Section 6", "2 RANGE: a number out of its range (a sack that there is not");
        due("PLACE of the last sack", loaded(PACKED + ";pack 1 a left").sack(1, 3), 1);
        error(2, PACKED + ";pack ^2 a left");
        error(2, HEAD + ";mule a 10;pack ^0 a left");
        due("PLACE of the 16th", loaded(SACKS + ";mule a 10;pack 15 a left").sack(15, 3), 1);
        error(2, SACKS + ";mule a 10;pack ^16 a left");
        error(2, SACKS + ";mule a 10;pack ^999 a left");
    }

    private static void rangeOfDays() {
        sentence("Section 6", "days by which DAY would be above 9999)");
        // No text reaches so far: the 689 bytes behind the head hold 86 times 8 bytes, and 86 times 99 is 8514.
        MuleTrain t = loaded(HEAD + ";rest 99".repeat(86));
        due("the greatest DAY of a text", t.value(7), 8514);
        for (int times = 0; times < 15; times++) {
            t.rest(99);
        }
        due("DAY behind 15 rests more", t.value(7), 9999);
        // A load begins at DAY 0 again, so that it can rest.
        due("load on the last DAY", Check.load(t, HEAD + ";rest 99"), 0);
        due("DAY behind it", t.value(7), 99);
    }

    private static void unknown() {
        sentence("Section 6", "3 UNKNOWN: the NAME behind \"pack\" that no mule has.");
        String start = HEAD + ";sack iron 1 1;mule ab 10;mule abcdef 10;";
        due("the mule ab", loaded(start + "pack 0 ab left").sack(0, 4), 0);
        due("the mule abcdef", loaded(start + "pack 0 abcdef left").sack(0, 4), 1);
        for (String name : new String[] {"a", "b", "abc", "ac", "bb", "abcde", "abcdee", "zbcdef", "mule"}) {
            error(3, start + "pack 0 ^" + name + " left");
        }
        error(3, HEAD + ";sack iron 1 1;pack 0 ^a left");
    }

    private static void taken() {
        sentence("Section 6", "4 TAKEN: the NAME behind \"mule\" that a mule has.");
        String start = HEAD + ";mule ab 10;mule abcdef 10;";
        for (String name : new String[] {"ab", "abcdef"}) {
            error(4, start + "mule ^" + name + " 10");
            error(4, start + "mule c 10;mule ^" + name);
        }
        for (String name : new String[] {"a", "b", "abc", "ac", "bb", "abcde", "abcdee", "zbcdef"}) {
            due("mules with " + name, loaded(start + "mule " + name + " 10").value(0), 3);
        }
    }

    private static void limit() {
        sentence("Section 6", "5 LIMIT: the word of a 7th \"mule\", a 17th \"sack\" or a 9th stage.");
        due("six mules", loaded(MULES).value(0), 6);
        error(5, MULES + ";^mule g 10");
        error(5, MULES + "; \n^mule");
        due("16 sacks", loaded(SACKS).value(1), 16);
        error(5, SACKS + ";^sack iron 1 1");
        error(5, SACKS + ";^sack sand");
        due("8 stages", loaded(STAGES).value(6), 8);
        for (String word : new String[] {"road", "ford", "camp"}) {
            error(5, STAGES + ";^" + word + " 1");
            error(5, STAGES + ";^" + word + " 100");
        }
    }

    private static void refusedPack() {
        sentence("Section 6", "6 REFUSED: the NAME behind \"pack\" of a mule on which the sack cannot be packed (section \"reasons\")");
        due("LOAD of 10 of 10", loaded(PACKED + ";pack 0 b left").mule(1, 3), 10);
        error(6, PACKED + ";pack 1 ^b left");
        error(6, PACKED + ";pack 0 a left;pack 0 ^a left");
        error(6, PACKED + ";pack 0 a left;pack 0 ^b left");
        String full = PACKED + ";sack iron 29 1;sack iron 30 1;pack 0 a left;pack 1 a right;";
        due("LOAD of 50 of 50", loaded(full + "pack 2 a left").mule(0, 3), 50);
        error(6, full + "pack 3 ^a left");
        // Behind 10 miles with 9 of 10 it bears 9, and what was delivered or lost is not in the store.
        String tired = TILTED + ";mule a 10;sack iron 9 1;sack iron 9 1;sack iron 10 1;road 10;pack 0 a left;trip;";
        due("LOAD of 9 of 9", loaded(tired + "pack 1 a left").mule(0, 3), 9);
        error(6, tired + "pack 2 ^a left");
        error(6, tired + "pack 0 ^a left");
    }

    private static void refusedTrip() {
        sentence("Section 6", "the word \"trip\" if it cannot begin, or DAY would be above 9999.");
        error(6, HEAD + ";^trip");
        error(6, PACKED + ";^trip");
        error(6, "train 9 0 0" + PACKED.substring(HEAD.length()) + ";pack 0 a left;^trip");
        MuleTrain t = loaded("train 10 0 0" + PACKED.substring(HEAD.length()) + ";pack 0 a left;trip");
        due("trips with TILT 10", t.count(0), 1);
        error(6, "train 10 0 0" + PACKED.substring(HEAD.length()) + ";pack 0 a left;trip;^trip");
        // No text comes to DAY 9999 (see rangeOfDays); a load on that DAY begins at DAY 0, so that its trip can begin.
        MuleTrain late = onDay(9999);
        due("load with a trip on DAY 9999", Check.load(late, TILTED + ";mule a 10;sack iron 9 1;pack 0 a left;trip"), 1);
        due("DAY behind it", late.value(7), 1);
    }

    private static void firstException() {
        sentence("Section 6", "If several exceptions apply to a call, the one that is listed first in its description is thrown.");
        MuleTrain full = loaded(SACKS + STAGES.substring(HEAD.length()));
        thrown(ARGUMENT, "load(-1) of nothing", () -> full.load(-1));
        thrown(NO_SUCH, "mule(0, 10) without mules", () -> full.mule(0, 10));
        thrown(NO_SUCH, "sack(16, 8)", () -> full.sack(16, 8));
        thrown(NO_SUCH, "stage(8, 2)", () -> full.stage(8, 2));
        thrown(NO_SUCH, "pack(0, 0, 2) without mules", () -> full.pack(0, 0, 2));
        thrown(ARGUMENT, "addSack(0, 100, 0) of a 17th", () -> full.addSack(0, 100, 0));
        thrown(ARGUMENT, "addStage(3, 1) of a 9th", () -> full.addStage(3, 1));
        thrown(ARGUMENT, "restore(2) where nothing is saved", () -> full.restore(2));
        MuleTrain t = new MuleTrain();
        thrown(NO_SUCH, "pack(5, 0, 2)", () -> t.pack(5, 0, 2));
        thrown(NO_SUCH, "pack(0, 2, 2)", () -> t.pack(0, 2, 2));
        thrown(ARGUMENT, "pack(0, 0, 2) of what is packed", () -> t.pack(0, 0, 2));
        MuleTrain late = onDay(9999);
        thrown(ARGUMENT, "rest(100) on DAY 9999", () -> late.rest(100));
        thrown(ARGUMENT, "rest(0) on DAY 9999", () -> late.rest(0));
    }

    private static void callsThatThrow() {
        sentence("Section 6", "A call that throws changes nothing, unless its description says otherwise.");
        MuleTrain t = new MuleTrain();
        t.feed(0x74726169, 0x6e203120, 0x32203320, 0x20202020, 0x20202020);
        t.save(1);
        t.rest(1);
        int length = t.writeMule(0);
        String before = Check.all(t);
        thrown(ARGUMENT, "load(21)", () -> t.load(21));
        thrown(STATE, "pack of what is packed", () -> t.pack(0, 0, 0));
        thrown(STATE, "restore(0)", () -> t.restore(0));
        thrown(ARGUMENT, "save(2)", () -> t.save(2));
        thrown(NO_SUCH, "writeMule(2)", () -> t.writeMule(2));
        thrown(INDEX, "outputByte", () -> t.outputByte(length));
        thrown(NO_SUCH, "dropStage(3)", () -> t.dropStage(3));
        same("calls that throw", before, t);
        due("the output", t.outputByte(0), 'j');
        due("changes", t.value(10), 1);
        due("save(1), the only one", t.save(1), 1);
        due("load(20), as the buffer is kept", t.load(20), 0);
    }

    private static void newTrain() {
        sentence("Section 6", "A new train is as if the description \"train 20 10 3; mule jen 100; mule moll 60; sack grain 30 40; sack cloth 20 60; sack iron 50 30;"
            + " sack glass 10 90; sack grain 25 20; road 40; ford 5; camp 8; pack 0 jen left; pack 3 jen right; pack 1 moll left\" had been loaded, with empty buffers.");
        MuleTrain t = new MuleTrain();
        int[][] mules = {{100, 0, 100, 40, 30, 10, 2, 1, 130, 3}, {60, 0, 60, 20, 20, 0, 1, 1, 60, 4}};
        int[][] sacks = {{0, 30, 40, 1, 0, 0, -1, 40}, {1, 20, 60, 1, 1, 0, -1, 60}, {2, 50, 30, 0, -1, -1, -1, 30}, {3, 10, 90, 1, 0, 1, -1, 90}, {0, 25, 20, 0, -1, -1, -1, 20}};
        int[][] stages = {{0, 40}, {1, 5}, {2, 8}};
        int[] settings = {20, 10, 3};
        rows("mule", mules, (row, what) -> t.mule(row, what));
        rows("sack", sacks, (row, what) -> t.sack(row, what));
        rows("stage", stages, (row, what) -> t.stage(row, what));
        rows("setting", new int[][] {settings}, (row, what) -> t.setting(what));
        thrown(INDEX, "outputByte(0)", () -> t.outputByte(0));
        thrown(ARGUMENT, "load(1)", () -> t.load(1));
        thrown(STATE, "load(0), where nothing is", () -> t.load(0));
    }

    private interface Facts {
        int of(int row, int what);
    }

    private static void rows(String name, int[][] rows, Facts facts) {
        for (int row = 0; row < rows.length; row++) {
            for (int what = 0; what < rows[row].length; what++) {
                due(name + "(" + row + ", " + what + ")", facts.of(row, what), rows[row][what]);
            }
        }
    }

    private static void none() {
        sentence("Section 6", "The constants: `NONE = -1`: There is none.");
        due("NONE", MuleTrain.NONE, -1);
        due("the mule of a sack in the store", new MuleTrain().sack(2, 4), MuleTrain.NONE);
    }
}
