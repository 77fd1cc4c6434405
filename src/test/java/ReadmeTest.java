import java.io.IOException;
import java.nio.charset.StandardCharsets;
import java.nio.file.Files;
import java.nio.file.Path;
import java.util.ArrayList;
import java.util.List;

/** The example of README.md, line by line, and what its comments say. */
public final class ReadmeTest {
    private static final Path README = Path.of("README.md");
    private static final Path ITSELF = Path.of("src/test/java/ReadmeTest.java");

    public static void main(String[] args) throws IOException {
        Check.due("the example", between(README, "```java", "```"), () -> ownExample());
        run();
        Check.end();
    }

    private static void run() {
        // example
        CustomsDesk desk = new CustomsDesk();
        int food = desk.heading(-1, 1);
        int rice = desk.heading(food, 2);
        desk.rate(food, 100);
        desk.prefer(food, 2, 40, 1);
        int quota = desk.quota(rice, -1, 5, 20, 30);

        desk.part(2, 8000);
        desk.part(3, 2000);
        int goods = desk.declare(rice, 10, 0, quota);
        desk.pass(1);
        int got = desk.declaration(goods, 8);
        int first = desk.declaration(goods, 9);
        int second = desk.declaration(goods, 10);
        int back = desk.prove(goods, 1);
        int left = desk.undo();

        for (char sign : "12x4@2:900+3:100!1".toCharArray()) {
            desk.append(sign);
        }
        int entries = desk.lodge();
        // end of the example
        int[] answers = {food, rice, quota, goods, got, first, second, back, left, entries};
        int[] due = {0, 1, 0, 0, 5, 100, 500, 300, 7, 1};
        for (int at = 0; at < due.length; at++) {
            int answer = answers[at];
            Check.due("number " + at + " of the example", due[at], () -> answer);
        }
        Check.due("the code of food", 1, () -> desk.told(food, 6));
        Check.due("the code of rice", 12, () -> desk.told(rice, 6));
        Check.due("the origin of the goods", 2, () -> desk.declaration(goods, 3));
        Check.due("declarations", 2, () -> desk.account(4));
    }

    private static List<String> ownExample() {
        try {
            return between(ITSELF, "// example", "// end of the example");
        } catch (IOException e) {
            throw new IllegalStateException(e);
        }
    }

    private static List<String> between(Path file, String begin, String end) throws IOException {
        List<String> lines = new ArrayList<>();
        boolean isInside = false;
        for (String line : Files.readString(file, StandardCharsets.UTF_8).split("\n")) {
            String bare = line.trim();
            if (isInside && bare.equals(end)) {
                return lines;
            }
            if (isInside) {
                lines.add(bare.replaceAll("\\s+//.*", ""));
            }
            isInside = isInside || bare.equals(begin);
        }
        return lines;
    }
}
