import java.io.IOException;
import java.nio.file.Files;
import java.nio.file.Path;
import java.util.Set;
import java.util.TreeSet;

/**
 * Ties every answer to the words of the document that ask for it. Words that do not stand in the
 * document, or a promise of which nothing was tested, count as wrong answers.
 */
final class Sentences {
    static final int MIN = Integer.MIN_VALUE;
    static final int MAX = Integer.MAX_VALUE;
    private static final int PROMISES = 23;

    private final Check check = new Check();
    private final Set<Integer> tested = new TreeSet<>();
    private final String document;
    private String words = "";

    Sentences() throws IOException {
        document = Files.readString(Path.of("../shared/DOC.md")).replaceAll("\\s+", " ");
    }

    /** What follows is asked for by these words of the terms. */
    void terms(String said) {
        says(said, document.indexOf("## What it is"), document.indexOf("## Promise 1:"));
    }

    /** What follows is asked for by these words of a promise. */
    void promise(int number, String said) {
        int end = document.indexOf(number == PROMISES ? "## Not promised" : "## Promise " + (number + 1) + ":");
        says(said, document.indexOf("## Promise " + number + ":"), end);
        tested.add(number);
        words = "promise " + number + ", " + words;
    }

    private void says(String said, int from, int to) {
        words = "'" + said + "'";
        boolean stands = from >= 0 && from < to && document.substring(from, to).contains(said);
        check.due("the document says " + words, stands, true);
    }

    void due(String what, long got, long want) {
        check.due(words + ": " + what, got, want);
    }

    void due(String what, boolean got, boolean want) {
        check.due(words + ": " + what, got, want);
    }

    void end(String name) {
        for (int number = 1; number <= PROMISES; number++) {
            check.due("promise " + number + " has a test", tested.contains(number), true);
        }
        check.end(name);
    }
}
