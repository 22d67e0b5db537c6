import java.io.IOException;
import java.nio.file.Files;
import java.nio.file.Path;
import java.util.ArrayList;
import java.util.List;

/** The calls that README.md shows are answered as it says. */
final class ReadmeTests {
    private static final Due due = new Due();
    private static final List<String> calls = new ArrayList<>();

    public static void main(String[] args) throws IOException {
        Reorderium core = new Reorderium();
        says("core.setWidth(4);", core.setWidth(4));
        says("core.setHandlers(6, -1);", core.setHandlers(6, -1));
        says("core.setWord(8, 7);", core.setWord(8, 7));
        says("core.setTime(2, 9);", core.setTime(2, 9));
        says("core.add(1, 1, 0, 0, 10);", core.add(1, 1, 0, 0, 10));
        says("core.add(4, 2, 1, 1, 0);", core.add(4, 2, 1, 1, 0));
        says("core.add(9, 3, 0, 0, 8);", core.add(9, 3, 0, 0, 8));
        says("core.add(10, 0, 1, 2, 0);", core.add(10, 0, 1, 2, 0));
        says("core.add(5, 4, 1, 0, 0);", core.add(5, 4, 1, 0, 0));
        says("core.add(18, 0, 0, 0, 0);", core.add(18, 0, 0, 0, 0));
        says("core.add(1, 7, 0, 0, 99);", core.add(1, 7, 0, 0, 99));
        says("core.add(21, 0, 0, 0, 0);", core.add(21, 0, 0, 0, 0));
        says("core.run(8);", core.run(8));
        says("core.bufferAt(0);", core.bufferAt(0));
        says("core.stageAt(0);", core.stageAt(0));
        says("core.asked();", core.asked());
        says("core.run(52);", core.run(52));
        says("core.hasStopped();", core.hasStopped());
        says("core.cycle();", core.cycle());
        says("core.register(2);", core.register(2));
        says("core.word(10);", core.word(10));
        says("core.register(7);", core.register(7));
        says("core.kindAt(4);", core.kindAt(4));
        says("core.placeAt(4);", core.placeAt(4));
        says("core.life(4, 3);", core.life(4, 3));
        says("core.isSame();", core.isSame());
        due.same("README.md", String.join("\n", shown()), String.join("\n", calls));
        due.end();
    }

    private static void says(String call, Object answer) {
        calls.add(call + " // " + answer);
    }

    private static List<String> shown() throws IOException {
        List<String> shown = new ArrayList<>();
        for (String line : Files.readAllLines(Path.of("README.md"))) {
            if (line.startsWith("    core.")) {
                shown.add(line.trim().replaceAll("\\s+//", " //"));
            }
        }
        return shown;
    }
}
