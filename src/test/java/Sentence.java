import java.io.IOException;
import java.io.UncheckedIOException;
import java.nio.file.Files;
import java.nio.file.Path;
import java.util.ArrayList;
import java.util.List;

/**
 * The sentences of the document that name a boundary case, each with a test of its own. A test is
 * told by the words of its sentence, which must stand in the document; when all have run, missing()
 * tells the sentences for which there was none.
 */
final class Sentence {
    private static final String DOCUMENT = document();
    private static final int PROMISES = 65;
    private static final List<int[]> TOLD = new ArrayList<>();

    private Sentence() {
    }

    private static String document() {
        try {
            return Files.readString(Path.of("../shared/DOC.md"));
        } catch (IOException e) {
            throw new UncheckedIOException(e);
        }
    }

    private static int startOf(int promise) {
        return promise > PROMISES ? DOCUMENT.indexOf("\n## Not promised") : DOCUMENT.indexOf("\n## Promise " + promise + ":");
    }

    /** The test of a sentence from the head of the document. */
    static void told(String words, Runnable test) {
        run("", words, 0, startOf(1), test);
    }

    /** The test of a sentence of a promise. */
    static void promise(int number, String words, Runnable test) {
        run("promise " + number + ": ", words, startOf(number), startOf(number + 1), test);
    }

    private static void run(String place, String words, int from, int to, Runnable test) {
        Check.about(place + words);
        int found = DOCUMENT.indexOf(words, from);
        if (found < 0 || found + words.length() > to) {
            Check.fault("the document does not say so");
        }
        TOLD.add(new int[] {found, found + words.length()});
        int before = Check.made();
        try {
            test.run();
        } catch (RuntimeException e) {
            // The sentences behind this one are still to be looked at.
            Check.fault("its test was stopped by " + e);
        }
        if (Check.made() == before) {
            Check.fault("its test looks at nothing");
        }
        Check.about("");
    }

    /** Tells every sentence that names a boundary case and has no test. */
    static void missing(List<String> withoutBoundary) {
        int from = DOCUMENT.indexOf("STROKES. ");
        int to = DOCUMENT.indexOf("The constants:");
        lookAtParts(from, to, "(?<=[.;:)])\\s+|\n", true, withoutBoundary);
        for (int number = 1; number <= PROMISES; number++) {
            int signatureEnd = DOCUMENT.indexOf("`\n", startOf(number)) + 2;
            lookAtParts(signatureEnd, startOf(number + 1), "(?<=[.;])\\s+|\n", false, withoutBoundary);
        }
    }

    private static void lookAtParts(int from, int to, String cut, boolean all, List<String> withoutBoundary) {
        int start = from;
        for (String part : DOCUMENT.substring(from, to).split(cut)) {
            start = DOCUMENT.indexOf(part, start);
            int end = start + part.length();
            boolean names = !part.isBlank() && (all || namesBoundary(part));
            if (names && !isTold(start, end) && withoutBoundary.stream().noneMatch(part::startsWith)) {
                Check.fault("no test for: " + part);
            }
            start = end;
        }
    }

    private static boolean namesBoundary(String part) {
        return part.matches("(?s).*([0-9(]|NONE|FULL|CLASH|REFUSED|TEXT_ERROR|false|Throws|\\bif\\b|lowest|smallest|least).*");
    }

    private static boolean isTold(int start, int end) {
        return TOLD.stream().anyMatch(range -> range[0] < end && start < range[1]);
    }
}
