import java.io.IOException;
import java.nio.file.Files;
import java.nio.file.Path;
import java.util.ArrayList;
import java.util.List;

/** README.md, cut into its lines and what it shows between its fences. */
final class Readme {
    final List<String> lines;

    Readme() throws IOException {
        lines = Files.readAllLines(Path.of("README.md"));
    }

    /** What stands between ```kind and ```, one text for each such place. */
    List<String> shown(String kind) {
        List<String> all = new ArrayList<>();
        StringBuilder text = null;
        for (String line : lines) {
            if (text == null && line.equals("```" + kind)) {
                text = new StringBuilder();
            } else if (text != null && line.equals("```")) {
                all.add(text.toString());
                text = null;
            } else if (text != null) {
                text.append(line).append("\n");
            }
        }
        return all;
    }

    /** The first cells of the table that begins with such a head. */
    List<String> table(String head) {
        List<String> cells = new ArrayList<>();
        boolean within = false;
        for (String line : lines) {
            within = line.startsWith("| " + head + " |") || within && line.startsWith("|");
            if (within) {
                cells.add(line.split("\\|")[1].trim());
            }
        }
        return cells.subList(Math.min(2, cells.size()), cells.size());
    }

    /** How README.md shows that a program is compiled and run. */
    String wayToCompile() {
        return shown("sh").get(0);
    }

    /** How README.md shows that all tests are run. */
    String wayToTest() {
        return shown("sh").get(1);
    }

    /** How README.md shows that one test is run. */
    String wayToTestOne() {
        return shown("sh").get(2);
    }
}
