import java.io.IOException;
import java.nio.file.Files;
import java.nio.file.Path;
import java.util.ArrayList;
import java.util.List;

/** The calls of README.md's example, told here once more: README.md has these and no others, and they answer so. */
public final class ReadmeExample {
    private static final Check CHECK = new Check("ReadmeExample");
    private static final List<String> LINES = new ArrayList<>();

    public static void main(String[] args) throws IOException {
        List<String> told = linesOfReadme();
        run();
        CHECK.due("calls in README.md", told.size(), LINES.size());
        for (int i = 0; i < Math.min(told.size(), LINES.size()); i++) {
            CHECK.due(told.get(i) + " stands in README.md for " + LINES.get(i), told.get(i).equals(LINES.get(i)), true);
        }
        CHECK.end();
    }

    private static void run() {
        AgeHill hill = new AgeHill();
        says("feed(0x686f7573, 0x65206120, 0x353b686f, 0x75736520, 0x6220373b)",
            hill.feed(0x686f7573, 0x65206120, 0x353b686f, 0x75736520, 0x6220373b));
        says("feed(0x73746570, 0x2031303b, 0x20202020, 0x20202020, 0x20202020)",
            hill.feed(0x73746570, 0x2031303b, 0x20202020, 0x20202020, 0x20202020));
        says("back(12)", hill.back(12));
        says("read()", hill.read());
        says("come(70, 70, false)", hill.come(70, 70, false));
        says("come(20, 25, false)", hill.come(20, 25, false));
        says("live(0, 0)", hill.live(0, 0));
        says("live(1, 1)", hill.live(1, 1));
        says("unlawful(0)", hill.unlawful(0));
        says("pair(0)", hill.pair(0));
        says("least(AgeHill.NONE, 0)", hill.least(AgeHill.NONE, 0));
        says("hold(0)", hill.hold(0));
        says("settle(AgeHill.NONE)", hill.settle(AgeHill.NONE));
        says("unlawful(0)", hill.unlawful(0));
        says("restore(0)", hill.restore(0));
        says("house(0, 2)", hill.house(0, 2));
    }

    private static void says(String call, Object answer) {
        LINES.add("hill." + call + "; // " + answer);
    }

    /** Without the words behind an answer. */
    private static List<String> linesOfReadme() throws IOException {
        List<String> lines = new ArrayList<>();
        for (String line : Files.readAllLines(Path.of("README.md"))) {
            if (line.startsWith("hill.")) {
                lines.add(line.replaceAll("; +// ([^:]*)(:.*)?$", "; // $1"));
            }
        }
        return lines;
    }
}
