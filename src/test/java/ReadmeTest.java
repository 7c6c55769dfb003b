import java.io.IOException;
import java.nio.file.Files;
import java.nio.file.Path;
import java.util.List;

/** The example of README.md: what it says that a call answers, the call answers. */
public final class ReadmeTest {
    private static final Check CHECK = new Check();
    private static List<String> lines;

    public static void main(String[] args) throws IOException {
        lines = Files.readAllLines(Path.of("README.md"));
        PatternHouse house = new PatternHouse();
        says("house.type(pack(\"a(b|c)*d\"), 8);", house.type(Check.pack("a(b|c)*d"), 8));
        says("house.read();", house.read());
        says("house.positions();", house.positions());
        says("house.follows(0, 3);", house.follows(0, 3));
        says("house.feed(pack(\"xabcd\"), 5);", house.feed(Check.pack("xabcd"), 5));
        says("house.finds();", house.finds());
        says("house.find(0, false);", house.find(0, false));
        says("house.find(0, true);", house.find(0, true));
        says("house.states();", house.states());
        says("house.next(0, 0);", house.next(0, 0));
        says("house.classes();", house.classes());
        house.keep();
        house.type(Check.pack("ab*d"), 4);
        house.read();
        says("house.differ();", house.differ());
        says("house.letter(1);", house.letter(1));
        tellsHowToRunTheTests();
        CHECK.end();
    }

    private static void says(String call, Object answer) {
        String due = call + " // " + answer;
        boolean found = false;
        for (String line : lines) {
            String told = line.trim().replaceAll(" +//", " //");
            found |= told.startsWith(due) && !Character.isDigit((told + " ").charAt(due.length()));
        }
        CHECK.due("whether README.md says " + due, found, true);
    }

    private static void tellsHowToRunTheTests() {
        CHECK.due("whether README.md tells how to run the tests", lines.contains("    .ci/run"), true);
        String all = String.join("\n", lines);
        for (String test : Path.of("src", "test", "java").toFile().list((folder, name) -> name.endsWith("Test.java"))) {
            String row = "| `" + test.replace(".java", "") + "` |";
            CHECK.due("whether README.md has the row " + row, all.contains(row), true);
        }
    }
}
