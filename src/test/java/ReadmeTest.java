import java.io.IOException;
import java.nio.file.Files;
import java.nio.file.Path;

/** The example of README.md: each of its lines stands here too, and answers what it says. */
public final class ReadmeTest {
    private static final Path README = Path.of("README.md");
    private static final Path THIS = Path.of("src", "test", "java", "ReadmeTest.java");

    public static void main(String[] args) throws IOException {
        exampleAnswersAsItSays();
        exampleIsThatOfTheReadme();
        Check.end();
    }

    private static void exampleAnswersAsItSays() {
        KioskReel row = new KioskReel();
        int list = row.list();
        row.line(list, 0, 's', 7);        // show slide 7
        row.line(list, 1, 'w', 2);        // wait two ticks
        int kiosk = row.kiosk();
        row.start(kiosk, list);
        int visitor = row.visitor();
        row.go(visitor, kiosk);
        int shown = row.tick(1);          // 1: slide 7 was shown
        int times = row.saw(visitor, 7);  // 1: the visitor saw it
        int neighbour = row.kiosk();
        row.freeze(kiosk);
        row.tick(5);                      // frozen for 5 ticks: its watchdog makes it out
        char state = row.state(kiosk);    // 'o': it is out
        int where = row.plays(kiosk);     // 1: its player plays at the neighbour
        int come = row.thaw(kiosk);       // 1: its player comes back
        Check.same("shown", shown, 1);
        Check.same("times", times, 1);
        Check.same("state", state, 'o');
        Check.same("where", where, neighbour);
        Check.same("where, as the comment says", where, 1);
        Check.same("come", come, 1);
    }

    private static void exampleIsThatOfTheReadme() throws IOException {
        String[] parts = Files.readString(README).split("```(java)?\n");
        Check.same("README.md has an example", parts.length > 1, true);
        StringBuilder here = new StringBuilder();
        for (String line : Files.readAllLines(THIS)) {
            here.append(line.trim()).append('\n');
        }
        Check.same("the example stands here, line by line",
                parts.length > 1 && here.indexOf(parts[1]) >= 0, true);
    }
}
