import java.io.IOException;
import java.nio.file.Files;
import java.nio.file.Path;

/**
 * Tests that are named by a sentence of the document, or by the part of one that names a boundary
 * case. The words must stand there as they are, so that each test leads back to its sentence.
 */
final class Sentences {
    private static final Path DOCUMENT = Path.of("..", "shared", "DOC.md");

    private final String name;
    private final String document;
    private int tests;
    private int asked;
    private int wrong;

    interface Test {
        void run(Check check);
    }

    Sentences(String name) {
        this.name = name;
        this.document = read();
    }

    private static String read() {
        try {
            return Files.exists(DOCUMENT) ? inOneLine(Files.readString(DOCUMENT)) : null;
        } catch (IOException unreadable) {
            return null;
        }
    }

    /** Where the document breaks a line does not matter. */
    private static String inOneLine(String text) {
        return text.replaceAll("\\s+", " ");
    }

    void test(String sentence, Test test) {
        Check check = new Check(name + " \"" + sentence + "\"");
        if (document != null) {
            check.due("stands in the document", document.contains(inOneLine(sentence)) ? 1 : 0, 1);
        }
        int before = check.asked();
        try {
            test.run(check);
        } catch (RuntimeException thrown) {
            check.tell("threw " + thrown);
        }
        check.due("asks something", check.asked() > before ? 1 : 0, 1);
        tests++;
        asked += check.asked();
        wrong += check.wrong();
    }

    void end() {
        if (document == null) {
            System.out.println(name + ": no document, so its sentences were not looked for");
        }
        System.out.println(name + ": " + tests + " sentences, " + asked + " answers, "
                + wrong + " wrong");
        if (wrong != 0 || tests == 0) {
            System.exit(1);
        }
    }
}
