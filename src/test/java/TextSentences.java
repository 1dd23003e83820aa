/** Boundary cases of INPUT, PLAY and ERRORS, and of promises 1 to 7 and 53. */
final class TextSentences {
    private static final int NONE = ShortcutBook.NONE;

    private TextSentences() {
    }

    static void all() {
        buffer();
        tokens();
        statements();
        plays();
        errors();
    }

    private static void buffer() {
        Sentence.promise(1, "Creates a book with mode 0 alone.", TextSentences::modeZeroAlone);
        Sentence.told("Text is collected in an input buffer of at most 1600 bytes", TextSentences::fullText);
        Sentence.told("load() reads it and empties it, also on an error", TextSentences::emptiedByLoad);
        Sentence.promise(2, "Appends 20 bytes", TextSentences::twentyBytes);
        Sentence.promise(2, "the four bytes of each argument, most significant byte first", TextSentences::byteOrder);
        Sentence.promise(2, "NONE if it would exceed 1600 bytes (then nothing is appended)", TextSentences::beyondTheBuffer);
        Sentence.promise(2, "- `w0`: first four bytes\n- `w1`: next four bytes\n- `w2`: next four bytes\n- `w3`: next four bytes\n"
            + "- `w4`: last four bytes", TextSentences::wordOrder);
        Sentence.promise(3, "`length`: 0 to the current length", TextSentences::shortenedWithin);
        Sentence.promise(3, "NONE if length is out of range", TextSentences::shortenedOutside);
        Sentence.promise(4, "Returns the number of bindings", TextSentences::bindingsLoaded);
        Sentence.promise(4, "TEXT_ERROR if the text has an error (then only the buffer and the error change)", TextSentences::failedLoad);
        Sentence.promise(5, "of the latest load() or play()", TextSentences::latestError);
        Sentence.promise(6, "of the latest load() or play()", TextSentences::latestError);
        Sentence.promise(5, "Returns 1 to 5", TextSentences::allCodes);
        Sentence.promise(5, "0 if it had no error, or if there was none", TextSentences::noCode);
        Sentence.promise(6, "NONE if it had no error, or if there was none", TextSentences::noPosition);
        Sentence.promise(7, "`what`: 0 modes, 1 layers, 2 commands, 3 bindings, 4 reserved sequences, 5 pending strokes, 6 the time, "
            + "7 modes to come back to, 8 wishes, 9 the timeout, 10 strokes of the draft", TextSentences::allCounts);
        Sentence.promise(7, "NONE for any other what", TextSentences::noCount);
    }

    private static void modeZeroAlone() {
        int[] due = {1, 0, 0, 0, 0, 0, 0, 0, 0, 0, 0};
        ShortcutBook book = new ShortcutBook();
        for (int what = 0; what < due.length; what++) {
            Check.due("count(" + what + ")", book.count(what), due[what]);
        }
        Check.due("parentOf(0)", book.parentOf(0), NONE);
        Check.index("parentOf(1)", () -> book.parentOf(1));
        Check.index("command(0, 0)", () -> book.command(0, 0));
        Check.index("binding(0, 0)", () -> book.binding(0, 0));
        Check.index("reservedStroke(0, 0)", () -> book.reservedStroke(0, 0));
        Check.index("layer(0, 0)", () -> book.layer(0, 0));
        Check.index("draftWish(0)", () -> book.draftWish(0));
        Check.due("hold(0)", book.hold(0), 0);
    }

    private static void fullText() {
        ShortcutBook book = new ShortcutBook();
        Check.input(book, " ".repeat(1594) + "plain;");
        Check.due("truncateInput(1600)", book.truncateInput(1600), 1600);
        Check.due("load of 1600 bytes", book.load(), 0);
        Check.due("the command at their end", book.count(2), 1);
        Check.input(book, " ".repeat(1594) + "tick 5");
        Check.due("play of 1600 bytes", book.play(), -3);
        Check.due("errorPosition", book.errorPosition(), 1600);
    }

    private static void emptiedByLoad() {
        ShortcutBook book = new ShortcutBook();
        Check.input(book, "plain;");
        Check.due("load", book.load(), 0);
        Check.due("the buffer after a load", book.truncateInput(1), NONE);
        Check.input(book, "plain");
        Check.due("load", book.load(), -3);
        Check.due("the buffer after an error", book.truncateInput(1), NONE);
        Check.due("the buffer is as long as nothing", book.truncateInput(0), 0);
        Check.due("load of nothing", book.load(), 0);
    }

    private static void twentyBytes() {
        ShortcutBook book = new ShortcutBook();
        Check.due("appendInput", book.appendInput(0x20202020, 0x20202020, 0x20202020, 0x20202020, 0x20202020), 20);
        Check.due("appendInput", book.appendInput(0x20202020, 0x20202020, 0x20202020, 0x20202020, 0x20202020), 40);
        book.truncateInput(21);
        Check.due("appendInput behind 21", book.appendInput(0x20202020, 0x20202020, 0x20202020, 0x20202020, 0x20202020), 41);
        Check.due("load", book.load(), 0);
        book.appendInput(0x20202020, 0x20202020, 0x20202020, 0x20202020, 0);
        book.load();
        Check.due("the first byte of the last word", book.errorPosition(), 16);
        book.appendInput(0x20202020, 0x20202020, 0x20202020, 0x20202020, 0x20202000);
        book.load();
        Check.due("the twentieth byte", book.errorPosition(), 19);
    }

    private static void byteOrder() {
        ShortcutBook book = new ShortcutBook();
        // "mode", " 0;p", "lain", ";bac", "k;  "
        book.appendInput(0x6d6f6465, 0x20303b70, 0x6c61696e, 0x3b626163, 0x6b3b2020);
        Check.due("load", book.load(), 0);
        Check.due("modes", book.count(0), 2);
        Check.due("commands", book.count(2), 2);
        for (int shift = 0; shift < 32; shift += 8) {
            book.appendInput(0x20202020, 0x20202020 | 0xff << shift, 0x20202020, 0x20202020, 0x20202020);
            book.load();
            Check.due("a byte 255 " + shift + " bits up", book.errorPosition(), 7 - shift / 8);
        }
    }

    private static void wordOrder() {
        int[] words = {0x20202020, 0x20202020, 0x20202020, 0x20202020, 0x20202020};
        ShortcutBook book = new ShortcutBook();
        for (int i = 0; i < 5; i++) {
            words[i] = 0x20202021;
            book.appendInput(words[0], words[1], words[2], words[3], words[4]);
            book.load();
            Check.due("a wrong byte at the end of word " + i, book.errorPosition(), 4 * i + 3);
            words[i] = 0x20202020;
        }
    }

    private static void beyondTheBuffer() {
        ShortcutBook book = new ShortcutBook();
        Check.input(book, " ".repeat(1560) + "mode 0;");
        Check.due("truncateInput", book.truncateInput(1567), 1567);
        Check.due("appendInput to 1587", book.appendInput(0x20202020, 0x20202020, 0x20202020, 0x20202020, 0x20202020), 1587);
        Check.due("appendInput to 1607", book.appendInput(0x21212121, 0x21212121, 0x21212121, 0x21212121, 0x21212121), NONE);
        Check.due("the length stays", book.truncateInput(1588), NONE);
        Check.due("truncateInput", book.truncateInput(1581), 1581);
        Check.due("appendInput to 1601", book.appendInput(0x21212121, 0x21212121, 0x21212121, 0x21212121, 0x21212121), NONE);
        Check.due("the length stays", book.truncateInput(1582), NONE);
        Check.due("truncateInput", book.truncateInput(1580), 1580);
        Check.due("appendInput to 1600", book.appendInput(0x20202020, 0x20202020, 0x20202020, 0x20202020, 0x20202020), 1600);
        Check.due("appendInput to 1620", book.appendInput(0x21212121, 0x21212121, 0x21212121, 0x21212121, 0x21212121), NONE);
        Check.due("the length stays", book.truncateInput(1601), NONE);
        Check.due("load: no byte was changed", book.load(), 0);
        Check.due("modes", book.count(0), 2);
    }

    private static void shortenedWithin() {
        ShortcutBook book = new ShortcutBook();
        Check.due("truncateInput(0) of nothing", book.truncateInput(0), 0);
        Check.input(book, "plain;!!!!");
        Check.due("to the current length", book.truncateInput(10), 10);
        Check.due("to less", book.truncateInput(6), 6);
        Check.due("to the same", book.truncateInput(6), 6);
        Check.due("load of its first bytes", book.load(), 0);
        Check.due("commands", book.count(2), 1);
        Check.input(book, "!");
        Check.due("to nothing", book.truncateInput(0), 0);
        Check.due("load of nothing", book.load(), 0);
    }

    private static void shortenedOutside() {
        ShortcutBook book = new ShortcutBook();
        Check.due("truncateInput(1) of nothing", book.truncateInput(1), NONE);
        Check.input(book, "plain;");
        for (int length : new int[] {-1, 7, 1600, 1601, Integer.MAX_VALUE, Integer.MIN_VALUE}) {
            Check.due("truncateInput(" + length + ") of 6", book.truncateInput(length), NONE);
        }
        Check.due("the length stays", book.truncateInput(6), 6);
        book.truncateInput(4);
        Check.due("what was cut off is gone", book.truncateInput(5), NONE);
    }

    private static void bindingsLoaded() {
        ShortcutBook book = new ShortcutBook();
        Check.due("of nothing", book.load(), 0);
        Check.input(book, "plain;");
        Check.due("none", book.load(), 0);
        Check.input(book, "plain;bind 0 0 a;");
        Check.due("one", book.load(), 1);
        Check.input(book, eightyBindings());
        Check.due("80", book.load(), 80);
    }

    static String eightyBindings() {
        StringBuilder text = new StringBuilder("plain;");
        for (int i = 0; i < 80; i++) {
            text.append("bind 0 0 ").append(i < 26 ? "" : i < 52 ? "C" : i < 78 ? "S" : "M")
                .append((char) ('a' + i % 26)).append(';');
        }
        return text.toString();
    }

    /** A text goes wrong at its end, when all before it has been read. */
    private static void failedLoad() {
        String[] wrong = {"!", "mode 5;", "reserve a b c d e;", "bind 1 0 x;", "switch 5;"};
        for (int i = 0; i < wrong.length; i++) {
            ShortcutBook book = RefusedSentences.full();
            ShortcutBook same = RefusedSentences.full();
            String text = "mode 0;mode 1;back;bind 1 0 x y;reserve z;layer p a b;timeout 999;";
            Check.input(book, text + wrong[i]);
            same.truncateInput(0);
            Check.due("load", book.load(), ShortcutBook.TEXT_ERROR);
            Check.due("its code", book.errorCode(), i + 1);
            String position = String.valueOf(book.errorPosition());
            String state = RefusedSentences.state(book).replaceFirst("error [1-5] " + position + ";", "error;");
            Check.due("all but buffer and error: " + wrong[i],
                state.equals(RefusedSentences.state(same).replaceFirst("error [1-5] -?[0-9]+;", "error;")), true);
        }
    }

    private static void latestError() {
        ShortcutBook book = new ShortcutBook();
        String[] texts = {"mode 7;", "hold 1;hold;", "switch 3;", "layer a;layer a;", "hold 1;", " !"};
        boolean[] played = {false, true, false, false, true, true};
        int[] codes = {2, 1, 5, 4, 0, 1};
        int[] positions = {5, 11, 9, 8, NONE, 1};
        for (int i = 0; i < texts.length; i++) {
            Check.input(book, texts[i]);
            Check.due(texts[i], played[i] ? book.play() : book.load(), codes[i] == 0 ? 1 : -3);
            Check.due(texts[i] + ": code", book.errorCode(), codes[i]);
            Check.due(texts[i] + ": position", book.errorPosition(), positions[i]);
        }
    }

    private static void allCodes() {
        Check.textError("!", false, 1, 0);
        Check.textError("mode 1;", false, 2, 5);
        Check.textError("reserve a b c d e;", false, 3, 16);
        Check.textError("layer a;layer a;", false, 4, 8);
        Check.textError("switch 1;", false, 5, 9);
        Check.textError("!", true, 1, 0);
        Check.textError("type a b c d e;", true, 3, 13);
    }

    private static void noCode() {
        ShortcutBook book = new ShortcutBook();
        Check.due("there was none", book.errorCode(), 0);
        book.load();
        Check.due("no error", book.errorCode(), 0);
        Check.input(book, "!");
        book.load();
        Check.due("an error", book.errorCode(), 1);
        book.play();
        Check.due("a play without one", book.errorCode(), 0);
        Check.input(book, "!");
        book.play();
        Check.due("an error of a play", book.errorCode(), 1);
        book.truncateInput(0);
        Check.due("it stays till the next one", book.errorCode(), 1);
        book.load();
        Check.due("a load without one", book.errorCode(), 0);
    }

    private static void noPosition() {
        ShortcutBook book = new ShortcutBook();
        Check.due("there was none", book.errorPosition(), NONE);
        book.load();
        Check.due("no error", book.errorPosition(), NONE);
        Check.input(book, "!");
        book.load();
        Check.due("an error at 0", book.errorPosition(), 0);
        book.play();
        Check.due("a play without one", book.errorPosition(), NONE);
        Check.input(book, " !");
        book.play();
        Check.due("an error of a play at 1", book.errorPosition(), 1);
        book.truncateInput(0);
        Check.due("it stays till the next one", book.errorPosition(), 1);
        book.load();
        Check.due("a load without one", book.errorPosition(), NONE);
    }

    private static void allCounts() {
        ShortcutBook book = Check.loaded("mode 0;mode 0;switch 1;plain;back;plain;plain;bind 0 0 a;bind 1 1 b c d e;"
            + "reserve w;reserve x;reserve y;layer q;layer r;layer s;layer t;timeout 9;");
        book.type(0);
        book.tick(8);
        Check.type(book, "b c d");
        for (int i = 0; i < 10; i++) {
            Check.draft(book, "z");
            book.wish();
        }
        Check.draft(book, "a a a a");
        int[] due = {3, 4, 5, 2, 3, 3, 8, 1, 10, 9, 4};
        for (int what = 0; what < due.length; what++) {
            Check.due("count(" + what + ")", book.count(what), due[what]);
        }
    }

    private static void noCount() {
        ShortcutBook book = RefusedSentences.full();
        for (int what : new int[] {-1, 11, 12, 32, Integer.MAX_VALUE, Integer.MIN_VALUE}) {
            Check.due("count(" + what + ")", book.count(what), NONE);
        }
    }

    private static void tokens() {
        Sentence.told("words (longest runs of letters a to z and A to Z, at most 8 letters)", TextSentences::words);
        Sentence.told("numbers (longest runs of digits, at most 3 digits)", TextSentences::numbers);
        Sentence.told("and the symbol ;.", TextSentences::symbol);
        Sentence.told("Spaces and line feeds (bytes 32 and 10) separate tokens and have no other meaning.", TextSentences::blanks);
        Sentence.told("A STROKE is a word of different letters of C, S, A and M (control, shift, alt, meta), perhaps none, "
            + "in any order, and one letter a to z behind them", TextSentences::strokeWords);
        Sentence.told("a KEY is a word of one letter a to z.", TextSentences::keyWords);
    }

    private static void words() {
        Check.textError("plainA;", false, 1, 0);
        Check.textError("plainz;", false, 1, 0);
        Check.textError("pla in;", false, 1, 0);
        Check.textError("plainaaa;", false, 1, 0);
        Check.textError("plainaaaa;", false, 1, 0);
        Check.textError("plain aaaaaaaa;", false, 1, 6);
        Check.textError("plain aaaaaaaaa;", false, 1, 6);
        Check.textError("bindings 0 0 a;", false, 1, 0);
        Check.textError("reserve aaaaaaaaa;", false, 1, 8);
        for (char beside : new char[] {'@', '[', '`', '{'}) {
            Check.textError("plain" + beside + ";", false, 1, 5);
        }
        Check.due("a word ends at a digit", Check.loaded("plain;mode0;bind1 0a;").count(3), 1);
        Check.due("all small letters", Check.loaded("reserve a z;").reservedStroke(0, 1), 25);
    }

    private static void numbers() {
        Check.due("three digits", Check.loaded("mode 000;").count(0), 2);
        Check.due("two digits", Check.loaded("timeout 09;").count(9), 9);
        Check.due("one digit", Check.loaded("timeout 8;").count(9), 8);
        Check.textError("mode 0000;", false, 1, 5);
        Check.textError("switch 999;", false, 2, 7);
        Check.textError("switch 9990;", false, 1, 7);
        Check.textError("timeout 00005;", false, 1, 8);
        Check.textError("timeout -1;", false, 1, 8);
        Check.textError("timeout 1.5;", false, 1, 9);
        Check.textError("mode 0/;", false, 1, 6);
        Check.textError("mode 0:;", false, 1, 6);
        Check.textError("tick 1000;", true, 1, 5);
        Check.due("a number ends at a letter", Check.loaded("plain;bind 0 0a;").count(3), 1);
    }

    private static void symbol() {
        Check.due("without blanks round it", Check.loaded("plain;plain;").count(2), 2);
        Check.textError("plain:", false, 1, 5);
        Check.textError("plain<", false, 1, 5);
        Check.textError("plain;;", false, 1, 6);
    }

    /** Each byte between a word and its semicolon. */
    private static void blanks() {
        for (int one = 0; one < 256; one++) {
            boolean letter = one >= 'a' && one <= 'z' || one >= 'A' && one <= 'Z';
            String text = "plain" + (char) one + ";";
            if (one == 32 || one == 10) {
                Check.due("byte " + one, Check.loaded(text).count(2), 1);
            } else {
                Check.textError(text, false, 1, letter ? 0 : one == ';' ? 6 : 5);
            }
        }
        Check.due("many", Check.loaded(" \n\n  plain \n ;\n \nplain\n;\n").count(2), 2);
        Check.due("none", Check.loaded("plain;bind0 0a b;").count(3), 1);
        Check.due("between digits", Check.loaded("plain;plain;mode 0;bind 1\n1 a;").binding(0, 1), 1);
        Check.textError("pl ain;", false, 1, 0);
        Check.textError("timeout 1 0;", false, 1, 10);
        Check.textError("reserve C a;", false, 1, 8);
    }

    private static void strokeWords() {
        String letters = "CSAM";
        for (int set = 0; set < 16; set++) {
            StringBuilder ahead = new StringBuilder();
            StringBuilder back = new StringBuilder();
            for (int i = 0; i < 4; i++) {
                if ((set >> i & 1) == 1) {
                    ahead.append(letters.charAt(i));
                    back.insert(0, letters.charAt(i));
                }
            }
            ShortcutBook book = Check.loaded("reserve " + ahead + "a " + back + "z;");
            Check.due(ahead + "a", book.reservedStroke(0, 0), 32 * set);
            Check.due(back + "z", book.reservedStroke(0, 1), 32 * set + 25);
        }
        String[] none = {"C", "CSAM", "CCa", "SSa", "AAa", "MMa", "CSCa", "MSAMa", "aC", "ca", "Ba", "Za", "Cab", "aa",
            "ab", "CA", "CSAMC", "CSAMCz", "0", "Xa", "sA"};
        for (String one : none) {
            Check.textError("reserve " + one + ";", false, 1, 8);
            Check.textError("type " + one + ";", true, 1, 5);
        }
    }

    private static void keyWords() {
        Check.due("a", Check.loaded("layer a z a;").layer(0, 0), 0);
        Check.due("z", Check.loaded("layer z a z;").layer(0, 0), 25);
        Check.due("maps z", Check.loaded("layer a z a;").mapped(0, 25), 0);
        Check.due("maps to z", Check.loaded("layer z a z;").mapped(0, 0), 25);
        for (String one : new String[] {"A", "Z", "aa", "Ca", "0", "aZ"}) {
            Check.textError("layer " + one + ";", false, 1, 6);
            Check.textError("layer b " + one + " c;", false, 1, 8);
            Check.textError("layer b c " + one + ";", false, 1, 10);
            Check.textError("press " + one + ";", true, 1, 6);
            Check.textError("release " + one + ";", true, 1, 8);
        }
    }

    private static void statements() {
        Sentence.told("The text is a sequence of statements, perhaps empty:", TextSentences::noStatement);
        Sentence.told("mode PARENT ;                            (a mode that stands before or 0): adds a mode", TextSentences::modeStatement);
        Sentence.told("plain ;  |  switch MODE ;  |  back ;     adds a command (0 to 5; the mode may come later)", TextSentences::commandStatements);
        Sentence.told("reserve STROKE { STROKE } ;              adds a reserved sequence", TextSentences::reserveStatement);
        Sentence.told("bind MODE COMMAND STROKE { STROKE } ;    (a mode and a command that stand before): adds a binding", TextSentences::bindStatement);
        Sentence.told("layer KEY { KEY KEY } ;                  adds a layer: its holder, and keys with those to which they are mapped",
            TextSentences::layerStatement);
        Sentence.told("timeout N ;                              (0 to 999, 0 without this statement; the last one counts)", TextSentences::timeoutStatement);
        Sentence.told("A text without errors replaces everything but the draft: no wishes, no snapshots, mode 0, time 0, nothing held.",
            TextSentences::replacedByLoad);
    }

    private static void noStatement() {
        for (String text : new String[] {"", " ", "\n", "  \n "}) {
            ShortcutBook book = RefusedSentences.full();
            Check.input(book, text);
            Check.due("load", book.load(), 0);
            Check.due("errorCode", book.errorCode(), 0);
            Check.due("modes", book.count(0), 1);
            Check.due("commands", book.count(2), 0);
        }
        Check.textError(";", false, 1, 0);
    }

    private static void modeStatement() {
        Check.due("0 is there", Check.loaded("mode 0;").parentOf(1), 0);
        ShortcutBook chain = Check.loaded("mode 0;mode 1;mode 2;mode 3;mode 4;");
        Check.due("the latest one", chain.parentOf(5), 4);
        Check.textError("mode 1;", false, 2, 5);
        Check.textError("mode 0;mode 2;mode 0;", false, 2, 12);
        Check.textError("mode 999;", false, 2, 5);
        Check.textError("mode;", false, 1, 4);
        Check.textError("mode", false, 1, 4);
        ShortcutBook many = Check.loaded("mode 0;mode 0;mode 0;");
        Check.input(many, "mode 3;");
        Check.due("modes of an earlier text do not stand before", many.load(), -3);
        Check.due("errorCode", many.errorCode(), 2);
    }

    private static void commandStatements() {
        ShortcutBook book = Check.loaded("switch 0;switch 5;plain;back;mode 0;mode 0;mode 0;mode 0;mode 0;");
        Check.due("the lowest target", book.command(0, 1), 0);
        Check.due("the highest target, later", book.command(1, 1), 5);
        Check.due("plain", book.command(2, 0), 0);
        Check.due("back", book.command(3, 0), 2);
        Check.due("back has no target", book.command(3, 1), NONE);
        Check.textError("switch 6;", false, 2, 7);
        Check.textError("switch 6;mode 0;mode 0;mode 0;mode 0;mode 0;", false, 2, 7);
        Check.textError("switch;", false, 1, 6);
        Check.textError("plain 0;", false, 1, 6);
        Check.textError("back 0;", false, 1, 5);
    }

    private static void reserveStatement() {
        ShortcutBook book = Check.loaded("reserve a;reserve a b c d;");
        Check.due("one stroke", book.reservedStroke(0, 1), NONE);
        Check.due("four strokes", book.reservedStroke(1, 3), 3);
        Check.textError("reserve;", false, 1, 7);
        Check.textError("reserve a b c d e;", false, 3, 16);
    }

    private static void bindStatement() {
        Check.due("one stroke", Check.loaded("plain;bind 0 0 a;").binding(0, 2), 1);
        Check.due("four strokes", Check.loaded("plain;bind 0 0 a b c d;").binding(0, 2), 4);
        Check.due("the latest ones", Check.loaded("mode 0;plain;back;bind 1 1 a;").binding(0, 1), 1);
        Check.textError("bind 0 0 a;plain;", false, 2, 7);
        Check.textError("plain;bind 1 0 a;mode 0;", false, 2, 11);
        Check.textError("plain;bind 0 1 a;plain;", false, 2, 13);
        Check.textError("plain;bind 0 0;", false, 1, 14);
        Check.textError("plain;bind 0;", false, 1, 12);
        Check.textError("plain;bind;", false, 1, 10);
        Check.textError("plain;bind 0 0 a b c d e;", false, 3, 23);
        ShortcutBook book = Check.loaded("mode 0;plain;plain;");
        Check.input(book, "plain;bind 1 0 a;");
        Check.due("modes of an earlier text do not stand before", book.load(), -3);
        Check.input(book, "plain;bind 0 1 a;");
        Check.due("nor its commands", book.load(), -3);
        Check.due("errorPosition", book.errorPosition(), 13);
    }

    private static void layerStatement() {
        Check.due("no pair", Check.loaded("layer q;").layer(0, 1), 0);
        StringBuilder pairs = new StringBuilder();
        for (char key = 'a'; key <= 'z'; key++) {
            pairs.append(' ').append(key).append(' ').append((char) ('z' - (key - 'a')));
        }
        ShortcutBook book = Check.loaded("layer q" + pairs + ";");
        Check.due("26 pairs", book.layer(0, 1), 26);
        for (int key = 0; key < 26; key++) {
            Check.due("mapped(0, " + key + ")", book.mapped(0, key), 25 - key);
        }
        Check.textError("layer;", false, 1, 5);
        Check.textError("layer q a;", false, 1, 9);
        Check.textError("layer q a b c;", false, 1, 13);
    }

    private static void timeoutStatement() {
        Check.due("0", Check.loaded("timeout 0;").count(9), 0);
        Check.due("999", Check.loaded("timeout 999;").count(9), 999);
        Check.textError("timeout 1000;", false, 1, 8);
        Check.due("the last one", Check.loaded("timeout 5;timeout 7;").count(9), 7);
        Check.due("the last one is 0", Check.loaded("timeout 5;timeout 0;").count(9), 0);
        ShortcutBook book = Check.loaded("timeout 5;");
        Check.input(book, "plain;");
        book.load();
        Check.due("0 without it", book.count(9), 0);
    }

    private static void replacedByLoad() {
        ShortcutBook book = RefusedSentences.full();
        book.saveSnapshot(1);
        Check.input(book, "mode 0;layer q a b;");
        Check.due("load", book.load(), 0);
        int[] due = {2, 1, 0, 0, 0, 0, 0, 0, 0, 0, 2};
        for (int what = 0; what < due.length; what++) {
            Check.due("count(" + what + ")", book.count(what), due[what]);
        }
        int[] typing = {0, NONE, 0, 0, 0};
        for (int what = 0; what < typing.length; what++) {
            Check.due("typing(" + what + ")", book.typing(what), typing[what]);
        }
        Check.due("the holder is not held", book.layer(0, 2), 0);
        Check.due("no modifier is held", book.hold(0), 0);
        Check.due("no snapshot 0", book.restoreSnapshot(0), false);
        Check.due("no snapshot 1", book.restoreSnapshot(1), false);
        Check.due("the draft stays", book.draftStroke(1), 6);
        nothingIsLeft();
    }

    /** The rows of a text begin anew in the next one. */
    private static void nothingIsLeft() {
        ShortcutBook book = Check.loaded("mode 0;mode 1;plain;switch 2;reserve x y;bind 2 1 a b;bind 1 1 c;layer q a b;layer w b c;timeout 5;");
        book.type(2);
        Check.input(book, "mode 0;mode 0;back;plain;plain;reserve z;bind 1 2 d;bind 0 1 e;bind 0 0 f;layer e c d d e;");
        Check.due("load", book.load(), 3);
        Check.due("parent", book.parentOf(2), 0);
        int[] kinds = {2, 0, 0};
        int[][] bindings = {{1, 2, 1}, {0, 1, 1}, {0, 0, 1}};
        for (int i = 0; i < 3; i++) {
            Check.due("kind of " + i, book.command(i, 0), kinds[i]);
            Check.due("target of " + i, book.command(i, 1), NONE);
            Check.due("uses of " + i, book.command(i, 2), 0);
            Check.due("stroke of " + i, book.bindingStroke(i, 0), 3 + i);
            for (int what = 0; what < 3; what++) {
                Check.due("binding(" + i + ", " + what + ")", book.binding(i, what), bindings[i][what]);
            }
        }
        Check.due("reserved", book.reservedStroke(0, 0), 25);
        Check.due("holder", book.layer(0, 0), 4);
        Check.due("mapped keys", book.layer(0, 1), 2);
        Check.due("mapped(0, 0)", book.mapped(0, 0), NONE);
        Check.due("mapped(0, 2)", book.mapped(0, 2), 3);
        Check.due("timeout", book.count(9), 0);
    }

    private static void plays() {
        Sentence.told("play() reads a row of at most 40 commands, perhaps empty; all numbers are 0 to 999:", TextSentences::playedRow);
        Sentence.told("press KEY ;  |  release KEY ;  |  hold MODIFIERS ;  |  tick TICKS ;  |  unbind BINDING ;      as these methods",
            TextSentences::playedMethods);
        Sentence.told("type STROKE { STROKE } ;                  as type() for each of these strokes (1 to 4)", TextSentences::playedStrokes);
        Sentence.told("bind MODE COMMAND STROKE { STROKE } ;  |  force MODE COMMAND STROKE { STROKE } ;      as these methods, "
            + "with these strokes in place of the draft (which stays as it is)", TextSentences::playedBindings);
        Sentence.told("A command is not possible if its method would throw an exception, or return false or an error code.",
            TextSentences::impossibleCommands);
        Sentence.promise(53, "does them in order, up to the first one that is not possible", TextSentences::playStops);
        Sentence.promise(53, "Returns how many were done", TextSentences::playedCounts);
        Sentence.promise(53, "TEXT_ERROR if the text has an error (then nothing is done)", TextSentences::failedPlay);
    }

    private static void playedRow() {
        ShortcutBook book = new ShortcutBook();
        Check.due("no command", Check.play(book, ""), 0);
        Check.due("no command but blanks", Check.play(book, " \n"), 0);
        Check.due("40 commands", Check.play(book, "tick 1;".repeat(40)), 40);
        Check.due("41 commands", Check.play(book, "tick 1;".repeat(41)), -3);
        Check.due("errorCode", book.errorCode(), 3);
        Check.due("the time", book.count(6), 40);
        Check.due("999", Check.play(book, "tick 999;"), 1);
        Check.due("numbers are no range error", Check.play(book, "hold 999;"), 0);
        Check.due("errorCode", book.errorCode(), 0);
        Check.due("numbers are no range error", Check.play(book, "bind 999 999 a;"), 0);
        Check.due("numbers are no range error", Check.play(book, "unbind 999;tick 0;"), 0);
        for (String word : new String[] {"hold", "tick", "unbind", "bind", "force"}) {
            Check.textError(word + " 1000;", true, 1, word.length() + 1);
        }
        Check.textError("bind 999 1000 a;", true, 1, 9);
    }

    private static void playedMethods() {
        String text = "plain;bind 0 0 Sz;bind 0 0 a;layer q a z;";
        ShortcutBook book = Check.loaded(text);
        Check.due("press", Check.play(book, "press q;hold 2;press a;"), 3);
        Check.due("it was mapped", book.command(0, 2), 1);
        Check.due("hold 0", Check.play(book, "hold 0;hold 15;"), 2);
        Check.due("held", book.hold(0), 15);
        Check.due("hold 16", Check.play(book, "hold 16;"), 0);
        Check.due("release", Check.play(book, "release q;"), 1);
        Check.due("release again", Check.play(book, "release q;"), 0);
        Check.due("tick 1", Check.play(book, "tick 1;"), 1);
        Check.due("tick 0", Check.play(book, "tick 0;"), 0);
        Check.due("unbind the last", Check.play(book, "unbind 1;"), 1);
        Check.due("unbind what is not there", Check.play(book, "unbind 1;"), 0);
        Check.due("unbind 0", Check.play(book, "unbind 0;"), 1);
        Check.due("unbind of nothing", Check.play(book, "unbind 0;"), 0);
        Check.due("the time", book.count(6), 1);
    }

    private static void playedStrokes() {
        ShortcutBook book = Check.loaded("plain;bind 0 0 a;bind 0 0 b c d e;");
        book.hold(3);
        Check.due("one stroke", Check.play(book, "type a;"), 1);
        Check.due("uses", book.command(0, 2), 1);
        Check.due("four strokes", Check.play(book, "type b c d e;"), 1);
        Check.due("uses", book.command(0, 2), 2);
        Check.due("four strokes alone", Check.play(book, "type a a a a;type a a a;"), 2);
        Check.due("uses", book.command(0, 2), 9);
        Check.textError("type;", true, 1, 4);
        Check.textError("type a b c d e;", true, 3, 13);
    }

    private static void playedBindings() {
        ShortcutBook book = Check.loaded("plain;");
        Check.due("with an empty draft", Check.play(book, "bind 0 0 a b c d;force 0 0 a;"), 2);
        Check.due("the draft is empty", book.count(10), 0);
        Check.due("one binding", book.count(3), 1);
        Check.due("a", book.bindingStroke(0, 0), 0);
        Check.draft(book, "w x y z");
        Check.due("with a full draft", Check.play(book, "bind 0 0 b;force 0 0 c d e f;"), 2);
        Check.due("the draft stays", book.count(10), 4);
        Check.due("its stroke", book.draftStroke(0), 22);
        Check.due("b", book.bindingStroke(1, 0), 1);
        Check.due("c d e f", book.bindingStroke(2, 3), 5);
        Check.due("one that stops", Check.play(book, "bind 0 0 a;"), 0);
        Check.due("the draft stays", book.draftStroke(3), 25);
        Check.textError("bind 0 0;", true, 1, 8);
        Check.textError("force 0 0;", true, 1, 9);
        Check.textError("force 0 0 a b c d e;", true, 3, 18);
    }

    private static void impossibleCommands() {
        String[] impossible = {"release a", "release q", "hold 16", "tick 0", "unbind 2", "bind 1 0 e", "bind 0 2 e",
            "bind 0 0 a", "bind 0 0 a b c", "bind 0 0 x y", "force 1 0 e", "force 0 2 e", "force 0 0 x", "unbind 999"};
        for (String one : impossible) {
            ShortcutBook book = Check.loaded("plain;back;reserve x;bind 0 0 a b;bind 0 1 c;layer q;");
            Check.due(one, Check.play(book, one + ";"), 0);
            Check.due(one + ": no error of the text", book.errorCode(), 0);
        }
        String[] possible = {"press q", "press z", "press a", "type z", "type a", "hold 15", "tick 999", "unbind 1",
            "force 0 0 a", "bind 0 0 e", "force 0 0 e"};
        for (String one : possible) {
            ShortcutBook book = Check.loaded("plain;back;reserve x;bind 0 0 a b;bind 0 1 c;layer q;");
            Check.due(one, Check.play(book, one + ";"), 1);
        }
        ShortcutBook full = Check.loaded(eightyBindings());
        Check.due("bind of an 81st", Check.play(full, "bind 0 0 Mz;"), 0);
        Check.due("force of an 81st", Check.play(full, "force 0 0 Mz;"), 0);
        Check.due("force in place of another", Check.play(full, "force 0 0 a z;"), 1);
        ShortcutBook late = TypingSentences.lateBook(999999);
        Check.due("tick beyond the last time", Check.play(late, "tick 2;"), 0);
        Check.due("tick to the last time", Check.play(late, "tick 1;"), 1);
    }

    private static void playStops() {
        ShortcutBook book = Check.loaded("plain;bind 0 0 a;");
        Check.due("play", Check.play(book, "tick 1;unbind 0;unbind 0;tick 2;"), 2);
        Check.due("the time", book.count(6), 1);
        Check.due("bindings", book.count(3), 0);
        Check.due("in order", Check.play(book, "bind 0 0 a;type a;unbind 0;type a;bind 0 0 a;"), 5);
        Check.due("uses", book.command(0, 2), 1);
        Check.due("bindings", book.count(3), 1);
    }

    private static void playedCounts() {
        ShortcutBook book = new ShortcutBook();
        Check.due("none", Check.play(book, ""), 0);
        Check.due("none possible", Check.play(book, "tick 0;tick 1;"), 0);
        Check.due("one", Check.play(book, "tick 1;"), 1);
        Check.due("39 of 40", Check.play(book, "hold 1;".repeat(39) + "hold 16;"), 39);
        Check.due("40", Check.play(book, "hold 1;".repeat(40)), 40);
    }

    private static void failedPlay() {
        String[] wrong = {"press", "hold 1;!", "hold 1;hold 1000;", "tick 1;type a b c d e;", "force 0 0 f g;move 0;", "unbind 0;;"};
        for (String one : wrong) {
            ShortcutBook book = RefusedSentences.full();
            ShortcutBook same = RefusedSentences.full();
            Check.due(one, Check.play(book, one), ShortcutBook.TEXT_ERROR);
            Check.due(one + ": errorCode", book.errorCode(), one.contains("type") ? 3 : 1);
            book.truncateInput(0);
            same.truncateInput(0);
            Check.due(one + ": nothing is done", RefusedSentences.state(book).replaceFirst("error [0-9]+ -?[0-9]+;", "").equals(
                RefusedSentences.state(same).replaceFirst("error [0-9]+ -?[0-9]+;", "")), true);
        }
    }

    private static void errors() {
        Sentence.told("The first error is reported, from left to right, with a code and a position", TextSentences::firstError);
        Sentence.told("the index of the first byte of the token concerned, or the length of the text if it ends too early", TextSentences::positions);
        Sentence.told("if several codes apply to a token, the lowest one is reported", TextSentences::lowestCode);
        Sentence.told("1 syntax: something that is not a token (also a word or number that is too long), or a token that is not allowed at its place",
            TextSentences::syntaxErrors);
        Sentence.told("2 range: a number that is not as told", TextSentences::rangeErrors);
        Sentence.told("3 limit: the first word of a seventh mode", TextSentences::seventhMode);
        Sentence.told("a 41st command, a", TextSentences::fortyFirstCommand);
        Sentence.told("a seventh reserved sequence", TextSentences::seventhReserved);
        Sentence.told("an 81st binding", TextSentences::eightyFirstBinding);
        Sentence.told("or a fifth layer", TextSentences::fifthLayer);
        Sentence.told("a fifth STROKE of a statement", TextSentences::fifthStroke);
        Sentence.told("in play() the first word of a 41st command", TextSentences::fortyFirstPlayed);
        Sentence.told("4 clash: at the first word of the statement, found when the whole statement with its ; has been read", TextSentences::clashFoundLate);
        Sentence.told("a sequence of a bind that clashes with a reserved one or with a binding of its mode", TextSentences::bindClashes);
        Sentence.told("a reserved sequence that clashes with a binding", TextSentences::reserveClashes);
        Sentence.told("a layer whose holder is one already, or that maps a key twice", TextSentences::layerClashes);
        Sentence.told("5 at the end: a switch to a mode that there is not", TextSentences::missingModes);
    }

    private static void firstError() {
        Check.textError("mode 9;!", false, 2, 5);
        Check.textError("!mode 9;", false, 1, 0);
        Check.textError("layer a;layer a;!", false, 4, 8);
        Check.textError("reserve a b c d e !", false, 3, 16);
        Check.textError("reserve a b ! d e;", false, 1, 12);
        Check.textError("switch 3;mode 9;", false, 2, 14);
        Check.textError("switch 9 !", false, 2, 7);
        Check.textError("plain;bind 9 9 !", false, 2, 11);
        Check.textError("plain;bind 0 9 !", false, 2, 13);
        Check.textError("plain;plain;bind 1 a;", false, 2, 17);
        Check.textError("plain;plain;bind 1 0 a;", false, 2, 17);
        Check.textError("hold 1 2;!", true, 1, 7);
        Check.textError("type a b c d e;!", true, 3, 13);
    }

    private static void positions() {
        Check.textError("   plain   :", false, 1, 11);
        Check.textError("plain", false, 1, 5);
        Check.textError("plain \n ", false, 1, 8);
        Check.textError("mode", false, 1, 4);
        Check.textError("mode 0", false, 1, 6);
        Check.textError("plain;bind 0", false, 1, 12);
        Check.textError("plain;bind 0 0", false, 1, 14);
        Check.textError("plain;bind 0 0 a b c d", false, 1, 22);
        Check.textError("layer a b", false, 1, 9);
        Check.textError("timeout  1234 ;", false, 1, 9);
        Check.textError("reserve  abcdefghij ;", false, 1, 9);
        Check.textError("press", true, 1, 5);
        Check.textError("press a ", true, 1, 8);
        Check.textError("force 0", true, 1, 7);
        Check.textError("type a b c d", true, 1, 12);
        Check.textError("!", false, 1, 0);
    }

    private static void lowestCode() {
        Check.textError("reserve a b c d 5;", false, 1, 16);
        Check.textError("reserve a b c d CCe;", false, 1, 16);
        Check.textError("reserve a b c d !;", false, 1, 16);
        Check.textError("mode 1000;", false, 1, 5);
        Check.textError("switch 1000;", false, 1, 7);
        Check.textError("type a b c d 5;", true, 1, 13);
        Check.textError("tick 1;".repeat(40) + "tock 1;", true, 1, 280);
        Check.textError("tick 1;".repeat(40) + ";", true, 1, 280);
        Check.textError("tick 1;".repeat(40) + "tickkkkkk 1;", true, 1, 280);
        Check.textError("tick 1;".repeat(40) + "7", true, 1, 280);
    }

    private static void syntaxErrors() {
        String[] statements = {"mode 0 0;", "mode a;", "mode ;", "plain 0;", "switch a;", "switch ;", "back a;", "reserve ;", "reserve 1;",
            "bind a 0 a;", "bind 0 a a;", "bind 0 0 ;", "bind 0 0 0;", "layer ;", "layer 1;", "layer a b;", "layer a 1 b;",
            "timeout ;", "timeout a;", "timeout 1 1;"};
        int[] positions = {7, 5, 5, 6, 7, 7, 5, 8, 8, 5, 7, 9, 9, 6, 6, 9, 8, 8, 8, 10};
        for (int i = 0; i < statements.length; i++) {
            Check.textError("plain;" + statements[i], false, 1, 6 + positions[i]);
        }
        otherWords("mode plain switch back reserve bind layer timeout", false);
        otherWords("press release hold tick unbind type bind force", true);
        cutOff("mode 0 ;plain ;switch 0 ;back ;reserve a b ;bind 0 0 a b ;layer a b c ;timeout 7 ;", false, " plain;", "plain;");
        cutOff("press a ;release a ;hold 1 ;tick 1 ;unbind 0 ;type a b ;bind 0 0 a b ;force 0 0 a b ;", true, " tick 1;", "");
        Check.textError("0", false, 1, 0);
        Check.textError("a", false, 1, 0);
        Check.textError("press a;", false, 1, 0);
        Check.textError("mode 0;", true, 1, 0);
        Check.textError("timeout 1000;", false, 1, 8);
        Check.textError("timeoutt 1;", false, 1, 0);
        Check.textError("timeouttt 1;", false, 1, 0);
        Check.textError("plain", false, 1, 5);
    }

    /** A word that differs in one letter from one that is allowed. */
    private static void otherWords(String words, boolean played) {
        for (String word : words.split(" ")) {
            for (int i = 0; i < word.length(); i++) {
                String other = word.substring(0, i) + (char) (word.charAt(i) ^ 32) + word.substring(i + 1);
                Check.textError(other + " 0;", played, 1, 0);
                other = word.substring(0, i) + "j" + word.substring(i + 1);
                Check.textError(other + " 0;", played, 1, 0);
            }
            Check.textError(word.substring(1) + " 0;", played, 1, 0);
            Check.textError(word.substring(0, word.length() - 1) + " 0;", played, 1, 0);
            Check.textError(word + "a 0;", played, 1, 0);
        }
    }

    /** Each statement without its last tokens, and a whole statement behind it. */
    private static void cutOff(String statements, boolean played, String behind, String before) {
        for (String statement : statements.split("(?<=;)")) {
            for (int end = statement.indexOf(' '); end >= 0; end = statement.indexOf(' ', end + 1)) {
                String start = before + statement.substring(0, end);
                Check.textError(start + behind, played, 1, start.length() + 1);
                Check.textError(start, played, 1, start.length());
            }
        }
    }

    private static void rangeErrors() {
        Check.textError("mode 1;", false, 2, 5);
        Check.textError("mode 999;", false, 2, 5);
        Check.textError("switch 6;", false, 2, 7);
        Check.textError("plain;bind 1 0 a;", false, 2, 11);
        Check.textError("plain;bind 0 1 a;", false, 2, 13);
        Check.due("in a play no number is out of range", Check.play(new ShortcutBook(), "tick 999;hold 999;"), 1);
    }

    private static void seventhMode() {
        String six = "mode 0;".repeat(5);
        Check.due("six modes", Check.loaded(six).count(0), 6);
        Check.textError(six + "mode 0;", false, 3, 35);
        Check.textError(six + "mode 9", false, 3, 35);
        Check.textError(six + " mode", false, 3, 36);
        ShortcutBook book = Check.loaded(six);
        Check.input(book, six);
        Check.due("each text begins anew", book.load(), 0);
    }

    private static void fortyFirstCommand() {
        String forty = "plain;".repeat(38) + "back;switch 0;";
        Check.due("40 commands", Check.loaded(forty).count(2), 40);
        for (String word : new String[] {"plain;", "back;", "switch 0;", "switch 9;", "plain", "back 1", "switch !"}) {
            Check.textError(forty + word, false, 3, forty.length());
        }
        ShortcutBook book = Check.loaded(forty);
        Check.input(book, forty);
        Check.due("each text begins anew", book.load(), 0);
    }

    private static void seventhReserved() {
        String six = "reserve a;".repeat(6);
        Check.due("six", Check.loaded(six).count(4), 6);
        Check.textError(six + "reserve a;", false, 3, 60);
        Check.textError(six + "reserve !", false, 3, 60);
        Check.textError("plain;bind 0 0 z;" + six + "reserve z;", false, 3, 77);
        ShortcutBook book = Check.loaded(six);
        Check.input(book, six);
        Check.due("each text begins anew", book.load(), 0);
    }

    private static void eightyFirstBinding() {
        String eighty = eightyBindings();
        Check.due("80", Check.loaded(eighty).count(3), 80);
        Check.textError(eighty + "bind 0 0 Mz;", false, 3, eighty.length());
        Check.textError(eighty + "bind 0 0 a;", false, 3, eighty.length());
        Check.textError(eighty + "bind !", false, 3, eighty.length());
        ShortcutBook book = Check.loaded(eighty);
        Check.input(book, eighty);
        Check.due("each text begins anew", book.load(), 80);
    }

    private static void fifthLayer() {
        String four = "layer a;layer b;layer c;layer d;";
        Check.due("four", Check.loaded(four).count(1), 4);
        Check.textError(four + "layer e;", false, 3, 32);
        Check.textError(four + "layer a;", false, 3, 32);
        Check.textError(four + "layer", false, 3, 32);
        ShortcutBook book = Check.loaded(four);
        Check.input(book, four);
        Check.due("each text begins anew", book.load(), 0);
    }

    private static void fifthStroke() {
        Check.due("four of each", Check.loaded("plain;reserve a b c d;bind 0 0 e f g h;").count(3), 1);
        Check.textError("reserve a b c d Ce;", false, 3, 16);
        Check.textError("reserve a b c d e", false, 3, 16);
        Check.textError("plain;bind 0 0 a b c d e;", false, 3, 23);
        Check.textError("type a b c d e;", true, 3, 13);
        Check.textError("bind 0 0 a b c d e;", true, 3, 17);
        Check.textError("force 0 0 a b c d e;", true, 3, 18);
    }

    private static void fortyFirstPlayed() {
        String forty = "hold 1;".repeat(40);
        Check.due("40", Check.play(new ShortcutBook(), forty), 40);
        for (String word : new String[] {"press a;", "release a;", "hold 1;", "tick 1;", "unbind 0;", "type a;", "bind 0 0 a;",
            "force 0 0 a;", "hold", "tick !", "type ;"}) {
            Check.textError(forty + word, true, 3, 280);
        }
    }

    private static void clashFoundLate() {
        Check.textError("plain;  bind 0 0 a;bind 0 0 a b;", false, 4, 19);
        Check.textError("plain;  bind 0 0 a;  bind 0 0 a b;", false, 4, 21);
        Check.textError("plain;bind 0 0 a;bind 0 0 a b", false, 1, 29);
        Check.textError("plain;bind 0 0 a;bind 0 0 a !;", false, 1, 28);
        Check.textError("plain;bind 0 0 a;bind 0 0 a b c d e;", false, 3, 34);
        Check.textError("plain;bind 0 0 a;bind 0 0 a b;!", false, 4, 17);
        Check.textError("plain;bind 0 0 a;reserve a", false, 1, 26);
        Check.textError("plain;bind 0 0 a;reserve a 5", false, 1, 27);
        Check.textError("layer a;layer a", false, 1, 15);
        Check.textError("layer a;layer a b;", false, 1, 17);
        Check.textError("layer a b c b d", false, 1, 15);
        Check.textError("layer a b c b d 5", false, 1, 16);
    }

    private static void bindClashes() {
        for (String bound : new String[] {"a b", "a", "a b c"}) {
            Check.textError("plain;reserve a b;bind 0 0 " + bound + ";", false, 4, 18);
            Check.textError("plain;bind 0 0 a b;bind 0 0 " + bound + ";", false, 4, 19);
            Check.due("another mode", Check.loaded("mode 0;plain;bind 0 0 a b;bind 1 0 " + bound + ";").count(3), 2);
        }
        Check.due("no clash", Check.loaded("plain;reserve a b;bind 0 0 a c;bind 0 0 b;").count(3), 2);
    }

    private static void reserveClashes() {
        for (String reserved : new String[] {"a b", "a", "a b c"}) {
            Check.textError("plain;bind 0 0 a b;reserve " + reserved + ";", false, 4, 19);
            Check.textError("mode 0;plain;bind 1 0 a b;reserve " + reserved + ";", false, 4, 26);
            Check.due("reserved ones may clash", Check.loaded("reserve a b;reserve " + reserved + ";").count(4), 2);
        }
        Check.due("no clash", Check.loaded("plain;bind 0 0 a b;reserve a c;").count(4), 1);
    }

    private static void layerClashes() {
        Check.textError("layer q;layer w;layer q;", false, 4, 16);
        Check.textError("layer q a b a c;", false, 4, 0);
        Check.textError("layer q a b a b;", false, 4, 0);
        Check.textError("layer w;layer q a b c d a a;", false, 4, 8);
        Check.due("to one key twice", Check.loaded("layer q a c b c;").layer(0, 1), 2);
        Check.due("to itself", Check.loaded("layer q a a;").mapped(0, 0), 0);
        Check.due("one key in two layers", Check.loaded("layer q a b;layer w a b;").count(1), 2);
        Check.due("a holder is mapped", Check.loaded("layer q w a q b;layer w q w;").count(1), 2);
    }

    private static void missingModes() {
        Check.textError("switch 1;", false, 5, 9);
        Check.textError("switch 1; \n", false, 5, 11);
        Check.textError("switch 5;mode 0;mode 0;mode 0;mode 0;", false, 5, 37);
        Check.textError("switch 1;plain", false, 1, 14);
        Check.textError("switch 2;mode 0;plain;bind 0 0 a;bind 0 0 a;", false, 4, 33);
        Check.due("it came later", Check.loaded("switch 5;" + "mode 0;".repeat(5)).command(0, 1), 5);
        Check.due("mode 0 is there", Check.loaded("switch 0;").command(0, 1), 0);
        ShortcutBook book = Check.loaded("mode 0;");
        Check.input(book, "switch 1;");
        Check.due("a mode of an earlier text", book.load(), -3);
        Check.due("errorCode", book.errorCode(), 5);
    }
}
