import java.io.IOException;
import java.nio.file.Files;
import java.nio.file.Path;
import java.util.ArrayList;
import java.util.List;
import java.util.regex.Matcher;
import java.util.regex.Pattern;

/** The example of README.md compiles, as it stands here word for word, and answers what its comments say. */
public final class ReadmeTest {
    private static final Path README = Path.of("README.md");
    private static final Path THIS_FILE = Path.of("src/test/java/ReadmeTest.java");
    private static final Pattern SAID = Pattern.compile("^(?:int|double) (\\w+) = .*; *// ([0-9.]+)\\b.*$");

    private static List<String> example;
    private static int answers = 0;

    public static void main(String[] args) throws IOException {
        example = linesBetween(README, "```java", "```");
        List<String> here = linesBetween(THIS_FILE, "// The example begins.", "// The example ends.");
        Due.same("lines of the example", here.size(), example.size());
        for (int i = 0; i < here.size() && i < example.size(); i++) {
            Due.same("the same as here: " + example.get(i), example.get(i).equals(here.get(i)) ? 1 : 0, 1);
        }
        runExample();
        Due.same("every answer that is said is looked at", answers, answersSaid());
        Due.close("ReadmeTest");
    }

    private static void runExample() {
        // The example begins.
        TubePost post = new TubePost();
        int north = post.addStation(3, 2);                 // 0, its number; room for 3, handling 2 ticks
        int south = post.addStation(2, 0);                 // 1; room for 2, no handling
        int tube = post.addTube(north, south, 10, 2, 2);   // 0; length 10, speed 2, bore 2
        int entry = post.addEntry(5, 20, 2, north, south); // 0; the clock sends a carrier at the ticks 5, 25, 45 ..
        int letter = post.send(north, south, 3);           // 0; rank 3, the most urgent
        int time = post.time(north, south);                // 5 ticks by open tubes, 10 / 2
        int way = post.next(north, south);                 // 0, the way out that it will choose
        int parted = post.parts(tube);                     // 1 pair of stations, were this tube shut
        int delivered = post.run(10);                      // 1 was delivered in these ten ticks
        int state = post.carrier(letter, 0);               // 3, it was delivered
        int when = post.carrier(letter, 5);                // 7, the tick then: 2 of handling, 5 in the tube
        int underWay = post.count(5);                      // 1, the one that the clock sent at the tick 5
        int inTube = post.tube(tube, 6);                   // 1, it is in the tube
        double mean = post.mean();                         // 7.0 ticks under way, by all that were delivered
        // The example ends.
        said("north", north);
        said("south", south);
        said("tube", tube);
        said("entry", entry);
        said("letter", letter);
        said("time", time);
        said("way", way);
        said("parted", parted);
        said("delivered", delivered);
        said("state", state);
        said("when", when);
        said("underWay", underWay);
        said("inTube", inTube);
        said("mean", mean);
    }

    private static void said(String name, double answer) {
        for (String line : example) {
            Matcher found = SAID.matcher(line);
            if (found.matches() && found.group(1).equals(name)) {
                answers++;
                Due.sameDouble(line, answer, Double.parseDouble(found.group(2)));
            }
        }
    }

    private static int answersSaid() {
        int said = 0;
        for (String line : example) {
            said += line.contains("//") ? 1 : 0;
        }
        return said;
    }

    /** The lines between the first one that is this and the next one that is that, without the blanks round them. */
    private static List<String> linesBetween(Path file, String first, String last) throws IOException {
        List<String> found = new ArrayList<>();
        boolean isInside = false;
        for (String line : Files.readAllLines(file)) {
            String text = line.strip();
            if (isInside && text.equals(last)) {
                return found;
            }
            if (isInside) {
                found.add(text);
            }
            isInside = isInside || text.equals(first);
        }
        return found;
    }
}
