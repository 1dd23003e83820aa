import java.util.List;

/** Each sentence of the document that names a boundary case, with a test of its own. */
public final class SentenceTest {
    /** What the document says without naming a boundary case, or says once more elsewhere. */
    private static final List<String> WITHOUT_BOUNDARY = List.of("STROKES.", "MODES.", "COMMANDS.", "RESERVED.", "BINDINGS.", "LAYERS.",
        "TYPING.", "WISHES.", "INPUT.", "PLAY.", "ERRORS.", "A binding has a mode, a sequence and a command.",
        "Returns the least drop for a mode.");

    private SentenceTest() {
    }

    public static void main(String[] args) {
        TextSentences.all();
        BookSentences.all();
        ViewSentences.all();
        TypingSentences.all();
        RefusedSentences.all();
        Sentence.missing(WITHOUT_BOUNDARY);
        Check.end();
    }
}
