import java.io.IOException;
import java.nio.file.Files;
import java.nio.file.Path;
import java.util.ArrayList;
import java.util.List;

/** README.md's examples: each line of them stands in this test too, and answers what the comment behind it says. */
public final class ReadmeTest {
    private static final Path README = Path.of("README.md");
    private static final Path THIS = Path.of("src/test/java/ReadmeTest.java");

    private ReadmeTest() {
    }

    public static void main(String[] args) {
        Check.that("README.md says how to use the class (a program)", ReadmeTest::program);
        Check.that("README.md says how to use the class (a picture)", ReadmeTest::picture);
        Check.that("README.md says how to use the class (its examples are those of this test)", ReadmeTest::sameLines);
        Check.end();
    }

    private static void program() {
        TwinConsole console = new TwinConsole();
        console.rom(1, 638);
        console.rom(3, 128);
        console.rom(64, 0x7005);
        console.rom(65, 0x60FE);
        console.reset();
        Check.due("step()", console.step(), 4);
        Check.due("register(0)", console.register(0), 5);
        Check.due("run(100)", console.run(100), 100);
    }

    private static void picture() {
        int[] program = {
            0x31FC, 0x8140, 1028,
            0x31FC, 0x8208, 1028,
            0x31FC, 0x8709, 1028,
            0x31FC, 0x4008, 1028,
            0x31FC, 0x0000, 1028,
            0x31FC, 0x1230, 1024,
            0x31FC, 0x4200, 1028,
            0x31FC, 0x0000, 1028,
            0x31FC, 0x0001, 1024,
            0x60FE
        };
        TwinConsole console = new TwinConsole();
        console.rom(1, 638);
        console.rom(3, 128);
        for (int k = 0; k < program.length; k++) {
            console.rom(64 + k, program[k]);
        }
        console.reset();
        Check.due("run(800)", console.run(800), 804);
        Check.due("pixel(0, 0)", console.pixel(0, 0), 1);
        Check.due("pixel(2, 0)", console.pixel(2, 0), 3);
        Check.due("pixel(3, 0)", console.pixel(3, 0), 9);
    }

    /** A README line "call;  // 4: why" is this test's line with that call and the answer 4. */
    private static void sameLines() {
        List<String> here = linesOf(THIS);
        List<String> examples = examples();
        Check.due("there are examples", examples.size() > 20, true);
        for (String line : examples) {
            String[] parts = line.split("//", 2);
            String code = parts[0].strip();
            String answer = parts.length == 2 ? parts[1].strip().split("[^0-9]", 2)[0] : "";
            String wanted = answer.isEmpty() ? code : code.replace(";", ", " + answer + ");");
            boolean found = here.stream().anyMatch(own -> own.strip().equals(wanted) || own.endsWith(", " + wanted));
            Check.due("README.md's line '" + line.strip() + "' stands in the test", found, true);
        }
    }

    private static List<String> examples() {
        List<String> lines = new ArrayList<>();
        boolean inside = false;
        for (String line : linesOf(README)) {
            if (line.startsWith("```")) {
                inside = line.equals("```java");
            } else if (inside) {
                lines.add(line);
            }
        }
        return lines;
    }

    private static List<String> linesOf(Path file) {
        try {
            return Files.readAllLines(file);
        } catch (IOException e) {
            throw new IllegalStateException(e);
        }
    }
}
