import java.io.File;
import java.nio.file.Files;
import java.nio.file.Path;
import java.util.ArrayList;
import java.util.Collections;
import java.util.List;
import java.util.regex.Matcher;
import java.util.regex.Pattern;
import java.util.stream.Collectors;

/** README.md: its Java stands here line by line, and does what the page says. */
public final class ReadmeTest {
    private static final List<String> PAGE = Boundary.linesOf("README.md");
    private static final int BLOCKS = 5;

    public static void main(String[] args) {
        javaOfThePageStandsHere();
        testsOfThePageAreThere();
        howItIsMade();
        howADescriptionIsFedAndLoaded();
        howErrorsAreTold();
        howOutputIsRead();
        howManyCalls();
        Check.end();
    }

    private static void javaOfThePageStandsHere() {
        List<String> here = stripped(Boundary.linesOf("src/test/java/ReadmeTest.java"));
        int blocks = 0;
        for (int line = 0; line < PAGE.size(); line++) {
            if (PAGE.get(line).equals("```java")) {
                List<String> rest = PAGE.subList(line + 1, PAGE.size());
                List<String> block = stripped(rest.subList(0, rest.indexOf("```")));
                if (Collections.indexOfSubList(here, block) < 0) {
                    Check.fault("README.md has Java that is not run: " + block);
                }
                blocks++;
            }
        }
        Check.due("blocks of Java on the page", blocks, BLOCKS);
    }

    private static List<String> stripped(List<String> lines) {
        return lines.stream().map(String::strip).collect(Collectors.toList());
    }

    /** The page names the tests that there are. */
    private static void testsOfThePageAreThere() {
        List<String> named = new ArrayList<>();
        Matcher names = Pattern.compile("`([A-Z][A-Za-z]*Test)`").matcher(String.join("\n", PAGE));
        while (names.find()) {
            named.add(names.group(1) + ".java");
        }
        List<String> there = new ArrayList<>();
        for (File file : Path.of("src/test/java").toFile().listFiles()) {
            if (file.getName().endsWith("Test.java")) {
                there.add(file.getName());
            }
        }
        Collections.sort(named);
        Collections.sort(there);
        if (!named.equals(there)) {
            Check.fault("README.md names the tests " + named + ", there are " + there);
        }
        Check.due(".ci/run is a program", Files.isExecutable(Path.of(".ci/run")) ? 1 : 0, 1);
    }

    private static void howItIsMade() {
        MuleTrain train = new MuleTrain();
        int brings = train.tripBrings();    // 149
        train.fill(0);                      // packs on jen what is best for it
        if (train.tripBrings() < brings) {  // 39: on the road and in the ford jen would lose two sacks, and the glass would break
            train.undo();
        }
        int money = train.whyNoTrip(0) == 0 ? train.trip() : 0;    // 149
        Check.due("tripBrings() of the page", brings, 149);
        Check.due("trip() of the page", money, 149);
        MuleTrain filled = new MuleTrain();
        filled.fill(0);
        Check.due("tripBrings() behind fill(0)", filled.tripBrings(), 39);
        filled.trip();
        Check.due("sacks that are lost", filled.value(5), 2);
        Check.due("WORTH of the glass", filled.sack(3, 2), 0);
    }

    static void feed(MuleTrain train, String text) {
        int[] fours = new int[(text.length() + 19) / 20 * 5];
        for (int index = 0; index < text.length(); index++) {
            fours[index / 4] |= text.charAt(index) << 24 - index % 4 * 8;
        }
        for (int first = 0; first < fours.length; first += 5) {
            train.feed(fours[first], fours[first + 1], fours[first + 2], fours[first + 3], fours[first + 4]);
        }
    }

    private static void howADescriptionIsFedAndLoaded() {
        MuleTrain train = new MuleTrain();
        train.save(0);
        String text = "train 50 10 3; mule ada 90; sack iron 40 70; road 30; pack 0 ada left; trip";
        feed(train, text);
        int sacks = train.load(text.length());    // 1
        Check.due("load() of the page", sacks, 1);
        Check.due("MONEY", train.value(8), 67);
        Check.due("errorCode()", train.errorCode(), 0);
        Check.due("errorPosition()", train.errorPosition(), -1);
        Check.thrown("undo()", IllegalStateException.class, () -> train.undo());
        Check.thrown("restore(0)", IllegalStateException.class, () -> train.restore(0));
        feed(train, " ".repeat(700));
        Check.thrown("feed() of more than 700", IllegalStateException.class, () -> train.feed(1, 2, 3, 4, 5));
        Check.thrown("load(701)", IllegalArgumentException.class, () -> train.load(701));
        Check.thrown("feed() behind a length out of range", IllegalStateException.class, () -> train.feed(1, 2, 3, 4, 5));
        Check.thrown("load(700)", IllegalStateException.class, () -> train.load(700));
        Check.due("feed() behind load(700)", train.feed(1, 2, 3, 4, 5), 20);
    }

    private static void howErrorsAreTold() {
        MuleTrain train = new MuleTrain();
        train.save(1);
        train.rest(1);
        String text = "train 20 10 3; mule ada 90; sack iron 40 70; pack 0 ada left; trip";
        int code = 0;
        int position = -1;
        feed(train, text);
        try {
            train.load(text.length());
        } catch (IllegalStateException e) {
            code = train.errorCode();            // 6, as 40 on one side is not LEVEL with a TILT of 20
            position = train.errorPosition();    // 62, where the word "trip" begins
        }
        Check.due("errorCode() of the page", code, 6);
        Check.due("errorPosition() of the page", position, 62);
        Check.thrown("load(1), as the input buffer is empty", IllegalArgumentException.class, () -> train.load(1));
        Check.due("errorCode() behind load(1)", train.errorCode(), 6);
        Check.due("errorPosition() behind load(1)", train.errorPosition(), 62);
        Check.due("undo(), as the train stays as it was", train.undo(), 0);
        Check.due("restore(1), as it stays saved", train.restore(1), 0);
    }

    private static void howOutputIsRead() {
        MuleTrain train = new MuleTrain();
        StringBuilder line = new StringBuilder();
        int length = train.writeMule(0);
        for (int index = 0; index < length; index++) {
            line.append((char) train.outputByte(index));
        }
        for (String written : new String[] {line.toString(), "road40 ford5 camp8"}) {
            if (PAGE.stream().noneMatch(text -> text.contains("`" + written + "`"))) {
                Check.fault("README.md does not tell " + written);
            }
        }
        train.save(0);
        train.trip();
        train.undo();
        train.restore(0);
        Check.output("writeMule(0), behind other calls", train, length, "jen:0|3=40");
        Check.output("writeWay()", train, train.writeWay(), "road40 ford5 camp8");
        feed(train, "train 1 2 3");
        train.load(11);
        Check.output("writeWay(), behind load(11)", train, 18, "road40 ford5 camp8");
    }

    private static void howManyCalls() {
        MuleTrain train = new MuleTrain();
        int calls = 0;
        for (int length = 0; length < 700; calls++) {
            length = train.feed(0x20202020, 0x20202020, 0x20202020, 0x20202020, 0x20202020);
        }
        Check.due("calls of feed() for 700 bytes", calls, 35);
    }
}
