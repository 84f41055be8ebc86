import java.io.IOException;
import java.io.UncheckedIOException;
import java.nio.file.Files;
import java.nio.file.Path;
import java.util.List;
import java.util.Map;
import java.util.NoSuchElementException;
import java.util.TreeMap;

/** What the boundary tests share: the sentence of the document that asks for them stands ahead of the answers. */
abstract class Boundary {
    interface OfTrain {
        double answer(MuleTrain train);
    }

    interface OfNumber {
        double answer(int number);
    }

    static final int LEAST = Integer.MIN_VALUE;
    static final int MOST = Integer.MAX_VALUE;
    static final Class<?> NO_SUCH = NoSuchElementException.class;
    static final Class<?> ARGUMENT = IllegalArgumentException.class;
    static final Class<?> STATE = IllegalStateException.class;
    static final Class<?> INDEX = IndexOutOfBoundsException.class;
    static final String HEAD = "train 0 0 0";
    static final String TILTED = "train 99 0 0";

    private static final String TITLE = "# MuleTrain";
    private static final Map<String, String> PARTS = partsOfDocument();

    /** What no test has named yet of each part. */
    private static final Map<String, StringBuilder> UNTESTED = untestedParts();

    /** What follows holds this sentence, which must stand in this part of the document to the letter. */
    static void sentence(String part, String sentence) {
        Check.about(part + " [" + sentence + "]: ");
        nameSentence(part, sentence);
    }

    /** What follows holds two sentences where they meet. */
    static void meeting(String part, String sentence, String otherPart, String otherSentence) {
        Check.about(part + " [" + sentence + "] and " + otherPart + " [" + otherSentence + "]: ");
        nameSentence(part, sentence);
        nameSentence(otherPart, otherSentence);
    }

    private static void nameSentence(String part, String sentence) {
        String text = partOfDocument(part);
        int at = text.indexOf(sentence);
        if (at < 0) {
            Check.fault("[" + sentence + "] does not stand in " + part + " of the document");
        }
        for (; at >= 0; at = text.indexOf(sentence, at + 1)) {
            UNTESTED.get(part).replace(at, at + sentence.length(), " ".repeat(sentence.length()));
        }
    }

    static void everySentenceIsTested() {
        Check.about("");
        for (Map.Entry<String, StringBuilder> part : UNTESTED.entrySet()) {
            for (String rest : part.getValue().toString().split(" {2,}|\n")) {
                if (rest.matches(".*[A-Za-z0-9].*")) {
                    Check.fault(part.getKey() + " has no test of [" + rest.strip() + "]");
                }
            }
        }
        Check.due("parts of the document (Terms, 6 sections, 41 promises, 2 ahead of them)", PARTS.size(), 50);
    }

    private static Map<String, StringBuilder> untestedParts() {
        Map<String, StringBuilder> untested = new TreeMap<>();
        for (Map.Entry<String, String> part : PARTS.entrySet()) {
            untested.put(part.getKey(), new StringBuilder(part.getValue()));
        }
        return untested;
    }

    static String partOfDocument(String part) {
        return PARTS.getOrDefault(part, "");
    }

    /** By names like "Terms", "Section 4" and "Promise 30"; their headings, and the fences of texts, are no sentences. */
    private static Map<String, String> partsOfDocument() {
        Map<String, String> parts = new TreeMap<>();
        String part = "";
        for (String line : linesOf("../shared/DOC.md")) {
            if (line.matches("## Promise \\d+: .*")) {
                part = line.substring(3, line.indexOf(':'));
            } else if (line.matches("\\d\\. [A-Z ,]+")) {
                part = "Section " + line.charAt(0);
            } else if (line.startsWith("## ")) {
                part = line.substring(3);
            } else if (!line.equals(TITLE) && !line.startsWith("```")) {
                parts.merge(part, line + "\n", String::concat);
            }
        }
        parts.remove("");
        // It says what is free: there is nothing to hold.
        parts.remove("Not promised");
        return parts;
    }

    static List<String> linesOf(String file) {
        try {
            return Files.readAllLines(Path.of(file));
        } catch (IOException e) {
            throw new UncheckedIOException(e);
        }
    }

    static void due(String call, double got, double want) {
        Check.due(call, got, want);
    }

    static void thrown(Class<?> want, String call, Check.Call made) {
        Check.thrown(call, want, made);
    }

    static void error(int code, String marked) {
        Check.error(code, marked);
    }

    static MuleTrain loaded(String text) {
        return Check.loaded(text);
    }

    /** The call throws on this train, and nothing that can be asked is another behind it. */
    static void refused(Class<?> want, String call, MuleTrain train, Check.Call made) {
        String before = Check.all(train);
        int changes = train.value(10);
        thrown(want, call, made);
        same(call + ", which throws,", before, train);
        due("changes that can be undone behind " + call, train.value(10), changes);
    }

    static void same(String what, String before, MuleTrain train) {
        String behind = Check.all(train);
        if (!before.equals(behind)) {
            Check.fault(what + " made " + before + " to " + behind);
        }
    }

    /** Only the numbers from least to most are taken; all others throw. */
    static void range(Class<?> want, String name, int least, int most, OfNumber call) {
        taken(name, least, call);
        taken(name, most, call);
        for (int number : new int[] {least - 1, most + 1, LEAST, MOST}) {
            thrown(want, name + " of " + number, () -> call.answer(number));
        }
    }

    private static void taken(String name, int number, OfNumber call) {
        try {
            call.answer(number);
        } catch (RuntimeException e) {
            Check.fault(name + " of " + number + " threw " + e.getClass().getName());
        }
    }

    /** A text takes only the numbers from least to most where the sign # stands; one outside is a RANGE error there. */
    static void rangeInText(int least, int most, String text) {
        String ahead = text.substring(0, text.indexOf('#'));
        String behind = text.substring(text.indexOf('#') + 1);
        for (int number : new int[] {least, most}) {
            taken("load of [" + text + "]", number, x -> Check.load(new MuleTrain(), ahead + x + behind));
        }
        if (least > 0) {
            error(2, ahead + "^" + (least - 1) + behind);
        }
        if (most < 999) {
            error(2, ahead + "^" + (most + 1) + behind);
        }
        error(1, ahead + "^1000" + behind);
        error(1, ahead + "^-1" + behind);
    }

    /** Asked twice, the train answers the same and is as it was. */
    static void changesNothing(String name, MuleTrain train, OfTrain call) {
        train.writeWay();
        String before = Check.all(train);
        int changes = train.value(10);
        double answer = call.answer(train);
        due(name + " again", call.answer(train), answer);
        same(name, before, train);
        due("changes behind " + name, train.value(10), changes);
        due("the output behind " + name, train.outputByte(0), 'r');
    }

    /** A change, also one that leaves everything as it was: it is counted and undone. */
    static void isChange(String name, MuleTrain train, double due, OfTrain call) {
        String before = Check.all(train);
        int changes = train.value(10);
        due(name, call.answer(train), due);
        due("changes behind " + name, train.value(10), changes + 1);
        due("undo() of " + name, train.undo(), changes);
        same("undo() of " + name, before, train);
    }

    /** A mule of STRENGTH 100 without sacks that is as tired as is told (0 to 100), behind its first trip. */
    static MuleTrain tired(int tired, int ease) {
        String text = "train 99 " + ease + " 0;mule a 100;sack iron 90 1";
        if (tired > 0) {
            // A LOAD of 90 makes it tired by as many as the miles are; that of 0 behind it by a tenth of them.
            text += ";road " + Math.min(tired, 99) + (tired > 99 ? ";road 10" : "") + ";pack 0 a left;trip";
        }
        MuleTrain train = loaded(text);
        due("TIRED", train.mule(0, 1), tired);
        return train;
    }

    /** A new train behind so many days of rest, in as few calls as can be. */
    static MuleTrain onDay(int day) {
        MuleTrain train = new MuleTrain();
        for (int left = day; left > 0; left -= 99) {
            train.rest(Math.min(left, 99));
        }
        due("DAY", train.value(7), day);
        return train;
    }
}
