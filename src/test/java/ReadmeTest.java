import java.nio.file.Files;
import java.nio.file.Path;

/** What README.md shows of the class's use is so. */
public final class ReadmeTest extends CupChecks {
    private static final String[] SHOWN = {
        "StolenCup cup = new StolenCup();",
        "int owner = cup.person(0, 100);",
        "int thief = cup.person(0, 0);",
        "int buyer = cup.person(1, 500);",
        "int t = cup.thing(1000, owner, 0);",
        "cup.feed(0x73286B3D, 0x30290000, 0, 0, 0);",
        "cup.law(1, 6);",
        "cup.now(10);",
        "cup.passing(t, 5, thief, 0, 5, 0, 0, 2, 2);",
        "cup.passing(t, 0, buyer, 1, 6, 200, 0, 0, 2);",
        "cup.whose(0, t);",
        "cup.may(0, t);"};

    public static void main(String[] args) throws Exception {
        begin("README.md");
        due("the example in README.md is the one below", codeOf(Files.readString(Path.of("README.md"))),
            String.join("\n", SHOWN));
        testExample();
        testNamesOfTests(Files.readString(Path.of("README.md")));
        end("README.md is right");
    }

    /** The first block of Java, without comments. */
    private static String codeOf(String text) {
        int begin = text.indexOf("```java\n") + 8;
        int end = text.indexOf("```", begin);
        return text.substring(begin, end).replaceAll(" *//.*", "").strip();
    }

    private static void testExample() {
        StolenCup cup = new StolenCup();
        int owner = cup.person(0, 100);
        int thief = cup.person(0, 0);
        int buyer = cup.person(1, 500);
        int t = cup.thing(1000, owner, 0);
        due("feed", cup.feed(0x73286B3D, 0x30290000, 0, 0, 0), 20);
        due("law", cup.law(1, 6), 1);
        due("now", cup.now(10), true);
        due("the theft", cup.passing(t, 5, thief, 0, 5, 0, 0, 2, 2), 0);
        due("the sale", cup.passing(t, 0, buyer, 1, 6, 200, 0, 0, 2), 1);
        due("whose", cup.whose(0, t), buyer);
        due("may", cup.may(0, t), 1 << owner | 1 << buyer);
    }

    /** Each file of tests is told of. */
    private static void testNamesOfTests(String text) throws Exception {
        try (var files = Files.list(Path.of("src/test/java"))) {
            for (Path file : files.sorted().toList()) {
                String name = file.getFileName().toString().replace(".java", "");
                due(name + " is told of", text.contains("`" + name), true);
            }
        }
    }
}
