/** What the project's tests have in common: due answers, due exceptions, and texts as input. */
final class Check {
    interface Call {
        long answer();
    }

    private static int wrong = 0;
    private static int made = 0;
    private static String about = "";

    private Check() {
    }

    /** What the next answers are about; it stands before each of them that is not as due. */
    static void about(String words) {
        about = words.isEmpty() ? "" : "\"" + words + "\": ";
    }

    static int made() {
        return made;
    }

    static void fault(String told) {
        wrong++;
        System.out.println(about + told);
    }

    static void due(String call, long got, long want) {
        made++;
        if (got != want) {
            fault(call + " answered " + got + ", due is " + want);
        }
    }

    static void due(String call, boolean got, boolean want) {
        due(call, got ? 1L : 0L, want ? 1L : 0L);
    }

    static void index(String call, Call one) {
        thrown(call, one, "IndexOutOfBoundsException");
    }

    static void argument(String call, Call one) {
        thrown(call, one, "IllegalArgumentException");
    }

    static void arithmetic(String call, Call one) {
        thrown(call, one, "ArithmeticException");
    }

    private static void thrown(String call, Call one, String want) {
        made++;
        String got;
        try {
            got = "the answer " + one.answer();
        } catch (RuntimeException e) {
            got = e.getClass().getSimpleName();
        }
        if (!got.equals(want)) {
            fault(call + " gave " + got + ", due is " + want);
        }
    }

    /** Makes a text the whole input. */
    static void input(ShortcutBook book, String text) {
        book.truncateInput(0);
        for (int i = 0; i < text.length(); i += 20) {
            int[] words = new int[5];
            for (int k = 0; k < 20; k++) {
                int one = i + k < text.length() ? text.charAt(i + k) & 255 : 0;
                words[k / 4] = words[k / 4] << 8 | one;
            }
            if (book.appendInput(words[0], words[1], words[2], words[3], words[4]) < 0) {
                throw new IllegalStateException("the text of the test is too long");
            }
        }
        if (book.truncateInput(text.length()) != text.length()) {
            throw new IllegalStateException("the text of the test was not taken");
        }
    }

    static ShortcutBook loaded(String text) {
        ShortcutBook book = new ShortcutBook();
        input(book, text);
        if (book.load() < 0) {
            throw new IllegalStateException("error " + book.errorCode() + " at "
                + book.errorPosition() + " of " + text);
        }
        return book;
    }

    static int play(ShortcutBook book, String text) {
        input(book, text);
        return book.play();
    }

    /** A stroke as the document writes it, such as CSa. */
    static int stroke(String written) {
        int modifiers = 0;
        for (int i = 0; i + 1 < written.length(); i++) {
            modifiers += 1 << "CSAM".indexOf(written.charAt(i));
        }
        return 32 * modifiers + written.charAt(written.length() - 1) - 'a';
    }

    /** Makes these strokes the draft; an empty text makes it empty. */
    static void draft(ShortcutBook book, String strokes) {
        book.clearDraft();
        for (String one : strokes.split(" ")) {
            if (!one.isEmpty()) {
                book.draft(stroke(one));
            }
        }
    }

    static void type(ShortcutBook book, String strokes) {
        for (String one : strokes.split(" ")) {
            book.type(stroke(one));
        }
    }

    static void textError(String text, boolean played, int code, int position) {
        ShortcutBook book = new ShortcutBook();
        input(book, text);
        String call = (played ? "play of " : "load of ") + text;
        due(call, played ? book.play() : book.load(), ShortcutBook.TEXT_ERROR);
        due(call + ": code", book.errorCode(), code);
        due(call + ": position", book.errorPosition(), position);
    }

    static void end() {
        System.out.println(wrong == 0 ? made + " answers are as due" : wrong + " answers are not as due");
        if (wrong != 0) {
            System.exit(1);
        }
    }
}
