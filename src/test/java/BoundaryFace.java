import java.lang.reflect.Member;
import java.lang.reflect.Modifier;
import java.util.ArrayList;
import java.util.Arrays;
import java.util.List;
import java.util.stream.Collectors;
import java.util.stream.Stream;

/** The public face, the signature of each promise and what the interface says ahead of its calls. */
final class BoundaryFace extends Boundary {
    private static final String FACE = "The public face";
    private static final List<String> SOURCE = linesOf("src/main/java/MuleTrain.java");
    private static final int PROMISES = 41;

    static void run() {
        faceStandsInSource();
        nothingBesideTheFace();
        promisesHaveTheFace();
        interfaceSaysAheadOfCalls();
    }

    private static List<String> faceLines() {
        return partOfDocument(FACE).lines().filter(line -> !line.isBlank()).collect(Collectors.toList());
    }

    /** A method ends with a semicolon in the document, and has a body in the source. */
    private static void faceStandsInSource() {
        for (String line : faceLines()) {
            sentence(FACE, line.strip());
            String due = line.endsWith(");") || line.contains(" throws ") ? line.substring(0, line.length() - 1) + " {" : line;
            due("lines of the source that are this one", SOURCE.stream().filter(due::equals).count(), 1);
        }
    }

    private static void nothingBesideTheFace() {
        sentence(FACE, "public final class MuleTrain {");
        List<String> due = faceLines().stream().filter(line -> line.startsWith("    public ")).collect(Collectors.toList());
        due("members of the document", due.size(), PROMISES + 1);
        due("public lines of the class", SOURCE.stream().filter(line -> line.startsWith("    public ")).count(), due.size());
        Class<?> face = MuleTrain.class;
        due("members that are not private", Stream.of(face.getDeclaredMethods(), face.getDeclaredFields(), face.getDeclaredConstructors())
            .flatMap(Arrays::stream).filter(member -> !Modifier.isPrivate(((Member) member).getModifiers())).count(), due.size());
        due("public constructors", face.getConstructors().length, 1);
    }

    private static void promisesHaveTheFace() {
        List<String> members = faceLines().stream().filter(line -> line.startsWith("    public ") && line.contains("(")).collect(Collectors.toList());
        for (int promise = 1; promise <= PROMISES; promise++) {
            String part = "Promise " + promise;
            String text = partOfDocument(part);
            int end = text.indexOf("`:");
            String signature = text.substring(text.indexOf('`') + 1, end);
            sentence(part, "`" + signature + "`:");
            if (!members.get(promise - 1).equals("    public " + signature + ";")) {
                Check.fault("the public face has " + members.get(promise - 1));
            }
        }
    }

    /** The source tells the same words ahead of the same calls, in their order. */
    private static void interfaceSaysAheadOfCalls() {
        List<String> sayings = partOfDocument("Section 6").lines().filter(line -> line.startsWith("Ahead of the calls ")).collect(Collectors.toList());
        due("sayings of the interface", sayings.size(), 7);
        for (String saying : sayings) {
            sentence("Section 6", saying);
            String words = saying.substring(saying.indexOf("----"), saying.length() - 1);
            List<String> due = new ArrayList<>();
            String[] pieces = saying.split("`");
            for (int piece = 1; piece < pieces.length; piece += 2) {
                due.add(pieces[piece]);
            }
            if (!callsBehind("    // " + words).equals(due)) {
                Check.fault("behind these words stand " + callsBehind("    // " + words));
            }
        }
    }

    private static List<String> callsBehind(String comment) {
        List<String> calls = new ArrayList<>();
        int first = SOURCE.indexOf(comment);
        for (int line = first + 1; first >= 0 && !SOURCE.get(line).startsWith("    // ----"); line++) {
            String text = SOURCE.get(line);
            if (text.startsWith("    public ")) {
                calls.add(text.substring(text.lastIndexOf(' ', text.indexOf('(')) + 1, text.indexOf('(')));
            }
        }
        return calls;
    }
}
