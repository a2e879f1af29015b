import java.io.IOException;
import java.nio.file.Files;
import java.nio.file.Path;
import java.util.Arrays;
import java.util.LinkedHashMap;
import java.util.Map;

/** Tests named by a section of the document and by a sentence of it, which must stand there word for word. */
final class Sentences {
    interface Test {
        void run();
    }

    private static int wrong = 0;
    private static String name = "";

    private final Map<String, String> sections = new LinkedHashMap<>();
    private String section = "";
    private String text = "";
    private boolean[] told = new boolean[0];
    private int tests = 0;

    Sentences() throws IOException {
        String heading = "";
        for (String line : Files.readAllLines(Path.of("../shared/DOC.md"))) {
            if (line.startsWith("#")) {
                heading = line.replaceFirst("^#+ ", "").replaceFirst(":.*", "");
                sections.put(heading, "");
            } else if (line.startsWith("==== ")) {
                heading = "Terms " + line.charAt(5);
                sections.put(heading, bare(line));
            } else if (!line.startsWith("```")) {
                sections.merge(heading, bare(line), (a, b) -> (a + " " + b).trim());
            }
        }
    }

    /** Without what is no sentence: the number of a part of the terms, the face of a call. */
    private static String bare(String line) {
        return line.replaceFirst("^==== \\d ", "").replaceFirst("^`[^`]*`: ", "").trim();
    }

    /** Ends the section ahead of it, all of whose words must have been said by then; part 1 of the terms is Terms 1. */
    void section(String heading) {
        end();
        section = heading;
        text = sections.getOrDefault(heading, "");
        told = new boolean[text.length()];
        name = heading;
        due("there is such a section", text.isEmpty() ? 0 : 1, 1);
    }

    /** Of that section only some sentences are said here. */
    void partOf(String heading) {
        section(heading);
        Arrays.fill(told, true);
    }

    void promise(int number) {
        section("Promise " + number);
    }

    void says(String sentence, Test test) {
        mark(sentence);
        tests++;
        try {
            test.run();
        } catch (RuntimeException | StackOverflowError thrown) {
            wrong++;
            System.out.println(name + " throws " + thrown);
        }
    }

    /** What needs no test of its own, for it is a heading or says nothing that an answer could tell. */
    void onlySays(String sentence) {
        mark(sentence);
    }

    private void mark(String sentence) {
        name = section + ", \"" + sentence + "\"";
        int at = text.indexOf(sentence);
        due("it stands in the document", at < 0 ? 0 : 1, 1);
        for (int i = Math.max(0, at); at >= 0 && i < at + sentence.length(); i++) {
            told[i] = true;
        }
    }

    private void end() {
        StringBuilder left = new StringBuilder();
        for (int i = 0; i < told.length; i++) {
            left.append(told[i] ? ' ' : text.charAt(i));
        }
        String words = left.toString().replaceAll("[ .;:,]+", " ").trim();
        if (!words.isEmpty()) {
            wrong++;
            System.out.println(section + " says, and no test: " + words);
        }
        told = new boolean[0];
    }

    void finish() {
        end();
        System.out.println(wrong == 0 ? tests + " tests of sentences pass" : wrong + " answers are not as due");
        if (wrong != 0) {
            System.exit(1);
        }
    }

    static void due(String what, long got, long want) {
        if (got != want) {
            wrong++;
            System.out.println(name + ": " + what + " is " + got + ", due is " + want);
        }
    }

    static void due(String what, String got, String want) {
        if (!got.equals(want)) {
            wrong++;
            System.out.println(name + ": " + what + " is\n  " + got + "\ndue is\n  " + want);
        }
    }
}
