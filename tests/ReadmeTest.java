import java.lang.reflect.Method;
import java.lang.reflect.Modifier;
import java.nio.ByteBuffer;
import java.nio.charset.StandardCharsets;
import java.nio.file.Files;
import java.nio.file.Path;
import java.util.Arrays;
import java.util.regex.Matcher;
import java.util.regex.Pattern;

/** What README.md shows: each line of its examples stands here, too, and each call of the face is named there. */
public final class ReadmeTest {
    public static void main(String[] args) throws Exception {
        deedsByHand();
        deedsByText();
        textWithFault();
        Path root = Path.of(System.getProperty("project", "."));
        String readme = Files.readString(root.resolve("README.md"));
        linesOfExamples(readme, Files.readString(root.resolve("tests/ReadmeTest.java")));
        callsOfFace(readme);
        namesOfTests(readme, root);
        Check.endOfTest();
    }

    private static void deedsByHand() {
        Check.by("README: the example of deeds by hand");
        ClownsMourn city = new ClownsMourn();
        int house = city.house(0, 40);      // a father is gone, grief 40: house 0
        int clown = city.clown(3, 20);      // skill 3, age 20: clown 0
        city.send(clown, house);
        int mood = city.fall(clown, 1);     // the mood of the house then: 2
        int left = city.of(house, 1);       // the grief that is left: 36
        city.day(2);                        // two days pass: two steps
        int few = city.comfort(clown, 20, ClownsMourn.NONE);   // so few falls would leave grief 20 or less: 3
        int steps = city.undo();            // the second day is taken back; steps that can be yet: 3
        Check.due("house", house, 0);
        Check.due("clown", clown, 0);
        Check.due("mood", mood, 2);
        Check.due("left", left, 36);
        Check.due("few", few, 3);
        Check.due("steps", steps, 3);
        Check.due("DAY", city.is(0), 1);
    }

    private static void deedsByText() {
        Check.by("README: the example of a text");
        ClownsMourn city = new ClownsMourn();
        city.house(0, 40);
        city.clown(3, 20);
        city.send(0, 0);
        write(city, "eases 2 * skill + hold fall from 1 to 3; grows if there > 0 then 0 else 2 end; fall 4 by 0; day 3;");
        int text = city.text();             // 0: the first text
        city.by(text);                      // it rules from now on
        int eased = city.eased(0, 4);       // 9, by its law
        int stopped = city.played(text);    // NONE: all its deeds were done
        Check.due("text", text, 0);
        Check.due("eased", eased, 9);
        Check.due("stopped", stopped, ClownsMourn.NONE);
        Check.due("GRIEF", city.of(0, 1), 31);
        Check.due("DAY", city.is(0), 3);
    }

    private static void textWithFault() {
        Check.by("README: the example of a fault");
        ClownsMourn city = new ClownsMourn();
        write(city, "rest 0; rest 5;");
        int text = city.text();             // NONE
        int what = city.fault(0);           // 2: a number that isn't one of those told
        int where = city.fault(1);          // 13: its first byte
        Check.due("text", text, ClownsMourn.NONE);
        Check.due("what", what, 2);
        Check.due("where", where, 13);
    }

    static void write(ClownsMourn city, String signs) {
        byte[] bytes = signs.getBytes(StandardCharsets.ISO_8859_1);
        ByteBuffer twenties = ByteBuffer.wrap(Arrays.copyOf(bytes, (bytes.length + 19) / 20 * 20));
        city.end(0);
        while (twenties.hasRemaining()) {
            city.feed(twenties.getInt(), twenties.getInt(), twenties.getInt(), twenties.getInt(), twenties.getInt());
        }
        city.end(bytes.length);
    }

    private static void linesOfExamples(String readme, String source) {
        Check.by("README: each line of an example is tried");
        Matcher block = Pattern.compile("```java\n(.*?)```", Pattern.DOTALL).matcher(readme);
        int blocks = 0;
        while (block.find()) {
            blocks++;
            for (String line : block.group(1).split("\n")) {
                Check.due("'" + line.trim() + "' stands in ReadmeTest", source.contains(line.trim()), true);
            }
        }
        Check.due("examples", blocks, 4);
    }

    private static void callsOfFace(String readme) {
        Check.by("README: each call of the face is named");
        for (Method method : ClownsMourn.class.getDeclaredMethods()) {
            if (Modifier.isPublic(method.getModifiers())) {
                Check.due(method.getName(), readme.contains("`" + method.getName() + "`"), true);
            }
        }
    }

    private static void namesOfTests(String readme, Path root) throws Exception {
        Check.by("README: each file of tests is named");
        try (var files = Files.list(root.resolve("tests"))) {
            for (Path file : (Iterable<Path>) files::iterator) {
                String name = "tests/" + file.getFileName();
                Check.due(name, !name.endsWith(".java") || readme.contains("`" + name + "`"), true);
            }
        }
    }
}
