import java.io.IOException;
import java.nio.file.Files;
import java.nio.file.Path;
import java.util.ArrayList;
import java.util.List;

/** The examples of README.md: their lines stand here too, and answer what is told beside them. */
public final class ReadmeTest {
    private ReadmeTest() {
    }

    public static void main(String[] args) throws IOException {
        examples();
        sameLines();
        Check.end();
    }

    private static void examples() {
        ShortcutBook book = new ShortcutBook();
        int save = book.addCommand(0, 0);       // a plain command
        book.draft(32 + 23);                    // control and x
        book.draft(32 + 18);                    // control and s
        int bound = book.bind(0, save);         // the draft is bound in mode 0
        int first = book.type(32 + 23);         // ShortcutBook.NONE: the stroke is pending
        int second = book.type(32 + 18);        // the command save
        int why = book.reason(0);               // 2: the draft is that of a binding already
        int cost = book.cheapest(0, 1, true);   // 1, and the draft is the stroke a: it is free
        Check.due("save", save, 0);
        Check.due("bound", bound, 0);
        Check.due("first", first, ShortcutBook.NONE);
        Check.due("second", second, save);
        Check.due("why", why, 2);
        Check.due("cost", cost, 1);
        Check.due("draftStroke(0)", book.draftStroke(0), 0);
        Check.due("draftStroke(1)", book.draftStroke(1), ShortcutBook.NONE);
        texts(book);
    }

    private static void texts(ShortcutBook book) {
        input(book, "mode 0; plain; switch 1; bind 0 0 Cx Cs; bind 0 1 i; layer l h j; timeout 5;");
        int bindings = book.load();             // 2
        input(book, "type Cx Cs; press i; hold 1; press l; press h; tick 3;");
        int done = book.play();                 // 6: all of them were possible
        int mode = book.typing(0);              // 1: the key i led there
        int kept = book.digest();
        input(book, "mode 7;");
        int failed = book.load();               // ShortcutBook.TEXT_ERROR, and the book is as before
        int code = book.errorCode();            // 2: a number that is not as told
        int position = book.errorPosition();    // 5: where the 7 stands
        Check.due("bindings", bindings, 2);
        Check.due("done", done, 6);
        Check.due("mode", mode, 1);
        Check.due("failed", failed, ShortcutBook.TEXT_ERROR);
        Check.due("code", code, 2);
        Check.due("position", position, 5);
        Check.due("digest()", book.digest(), kept);
    }

    static void input(ShortcutBook book, String text) {
        book.truncateInput(0);
        for (int i = 0; i < text.length(); i += 20) {
            int[] words = new int[5];
            for (int k = 0; k < 20; k++) {
                int one = i + k < text.length() ? text.charAt(i + k) : ' ';
                words[k / 4] = words[k / 4] << 8 | one;
            }
            book.appendInput(words[0], words[1], words[2], words[3], words[4]);
        }
        book.truncateInput(text.length());
    }

    private static void sameLines() throws IOException {
        List<String> here = stripped(Files.readString(Path.of("src/test/java/ReadmeTest.java")));
        String[] parts = Files.readString(Path.of("README.md")).split("```");
        Check.due("examples in README.md", parts.length / 2, 3);
        for (int i = 1; i < parts.length; i += 2) {
            for (String line : stripped(parts[i].substring("java".length()))) {
                Check.due("README.md has the line " + line + " and this test", here.contains(line), true);
            }
        }
    }

    private static List<String> stripped(String text) {
        List<String> lines = new ArrayList<>();
        for (String line : text.split("\n")) {
            if (!line.isBlank()) {
                lines.add(line.strip());
            }
        }
        return lines;
    }
}
