import java.io.IOException;
import java.nio.file.Files;
import java.nio.file.Path;
import java.util.ArrayList;
import java.util.List;

/** The example of README.md: each call of it, with the answer that stands behind it. */
public final class ReadmeTest {
    private static final List<String> SHOWN = new ArrayList<>();

    public static void main(String[] args) throws IOException {
        example();
        List<String> told = told();
        Due.is("readme: so many answers", told.size(), SHOWN.size());
        for (int k = 0; k < told.size() && k < SHOWN.size(); k++) {
            if (!told.get(k).equals(SHOWN.get(k))) {
                Due.tell("readme: answer " + k, told.get(k), SHOWN.get(k));
            }
        }
        Due.end();
    }

    private static void example() {
        ShapeCourt court = new ShapeCourt();
        int parent = court.make(-1);
        show("int parent = court.make(-1);", parent);
        int child = court.make(parent);
        show("int child = court.make(parent);", child);
        show("court.write(parent, 5, 50);", court.write(parent, 5, 50));
        show("court.pair(parent, 6, 5, 5, 10, false);", court.pair(parent, 6, 5, 5, 10, false));
        show("court.read(child, 6);", court.read(child, 6));
        show("court.readAt(0, child, 5);", court.readAt(0, child, 5));
        show("court.ofPlace(0, 4);", court.ofPlace(0, 4));
        show("court.wouldCost(0, child, 5);", court.wouldCost(0, child, 5));
        show("court.wouldDrop(parent, 7);", court.wouldDrop(parent, 7));
        show("court.write(child, 6, 20);", court.write(child, 6, 20));
        show("court.read(child, 5);", court.read(child, 5));
        show("court.listed(child, 1);", court.listed(child, 1));
        show("court.remove(child, 5);", court.remove(child, 5));
        show("court.ofObject(child, 2);", court.ofObject(child, 2));
        show("court.settle(child);", court.settle(child));
    }

    private static void show(String call, Object answer) {
        SHOWN.add(call + " " + answer);
    }

    /** The lines of the first piece of Java in README.md that tell an answer: the call, and the answer itself. */
    private static List<String> told() throws IOException {
        List<String> told = new ArrayList<>();
        boolean isInside = false;
        for (String line : Files.readAllLines(Path.of("README.md"))) {
            if (line.equals("```") && isInside) {
                break;
            }
            int comment = line.indexOf("// ");
            if (isInside && comment >= 0) {
                String answer = line.substring(comment + 3).split("[,:;]")[0];
                told.add(line.substring(0, comment).strip() + " " + answer);
            }
            isInside |= line.equals("```java");
        }
        return told;
    }
}
