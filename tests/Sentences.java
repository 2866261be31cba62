import java.io.IOException;
import java.io.UncheckedIOException;
import java.nio.file.Files;
import java.nio.file.Path;
import java.util.HashSet;
import java.util.Set;

/** For tests that go through the document sentence by sentence: each one that they quote must stand there. */
abstract class Sentences extends Asking {
    private static final String DOCUMENT = read("../shared/DOC.md").replaceAll("\\s+", " ");
    private static final Set<Integer> QUOTED = new HashSet<>();

    private static String read(String file) {
        try {
            return Files.readString(Path.of(file));
        } catch (IOException e) {
            throw new UncheckedIOException(e);
        }
    }

    private static String between(String start, String end) {
        int from = DOCUMENT.indexOf(start);
        int to = DOCUMENT.indexOf(end, from + start.length());
        return from < 0 || to < 0 ? "" : DOCUMENT.substring(from, to);
    }

    private static void quote(String where, String part, String sentence) {
        about(where + ", \"" + sentence + "\"");
        due("standing in the document", part.contains(sentence) ? 1 : 0, 1);
    }

    static void term(int n, String sentence) {
        quote("term " + n, between("==== " + n + ". ", n < 3 ? "==== " + (n + 1) + ". " : "The constants:"), sentence);
    }

    static void face(String sentence) {
        quote("the face", between("The constants:", "## Promise 1:"), sentence);
    }

    static void promise(int n, String sentence) {
        QUOTED.add(n);
        quote("promise " + n, between("## Promise " + n + ":", "## "), sentence);
    }

    /** Ends the test, which has to have quoted each of these promises. */
    static void endOf(int from, int to) {
        about("the test");
        for (int n = from; n <= to; n++) due("quoting promise " + n, QUOTED.contains(n) ? 1 : 0, 1);
        end();
    }
}
