/** Boundary cases of strokes, the draft, modes, commands, bindings, wishes, the digest and snapshots. */
final class BookSentences {
    private static final int NONE = ShortcutBook.NONE;
    private static final int FULL = ShortcutBook.FULL;
    private static final int REFUSED = ShortcutBook.REFUSED;
    private static final int CLASH = ShortcutBook.CLASH;
    private static final int[] FAR = {-1, -2, Integer.MAX_VALUE, Integer.MIN_VALUE};

    private BookSentences() {
    }

    static void all() {
        strokes();
        described();
        draftPromises();
        modePromises();
        reservedPromises();
        bindPromises();
        forcePromises();
        changePromises();
        clashPromises();
        numberPromises();
        wishPromises();
        snapshotPromises();
    }

    private static void strokes() {
        Sentence.told("An object is used for at most 512 calls after it has been made", BookSentences::fiveHundredTwelveCalls);
        Sentence.told("A key is a number from 0 (a) to 25 (z).", BookSentences::keys);
        Sentence.told("A stroke is a key with a set of modifiers: 32 times the set plus the key, where the set is the sum of 1 (control), "
            + "2 (shift), 4 (alt) and 8 (meta).", BookSentences::modifierSets);
        Sentence.told("A sequence has 1 to 4 strokes.", BookSentences::sequenceLengths);
        Sentence.told("A sequence is a proper prefix of another one if it is shorter and the other one begins with it.",
            BookSentences::properPrefixes);
        Sentence.told("Two sequences clash if they are equal or one of them is a proper prefix of the other one.", BookSentences::clashing);
        Sentence.told("The cost of a stroke is the cost of its key plus 2 for each modifier", BookSentences::modifierCosts);
        Sentence.told("the keys a, s, d, f, g, h, j, k and l cost 1, the keys q, w, e, r, t, y, u, i, o and p cost 2, the others 3.",
            BookSentences::keyCosts);
        Sentence.told("The cost of a sequence is the sum of those of its strokes.", BookSentences::sequenceCosts);
        Sentence.told("The draft is a row of 0 to 4 strokes, empty at first, on which many methods work.", BookSentences::draftRow);
    }

    private static void fiveHundredTwelveCalls() {
        ShortcutBook book = new ShortcutBook();
        for (int i = 1; i <= 512; i++) {
            Check.due("call " + i, book.tick(1), i);
        }
        book = new ShortcutBook();
        for (int i = 1; i <= 256; i++) {
            Check.due("draft", book.draft(505), 1);
            Check.due("clearDraft", book.clearDraft(), 1);
        }
    }

    private static void keys() {
        ShortcutBook book = new ShortcutBook();
        Check.due("draft of a", book.draft(0), 1);
        Check.due("draft of z", book.draft(25), 2);
        for (int beyond = 26; beyond < 32; beyond++) {
            int stroke = beyond;
            Check.argument("draft(" + stroke + ")", () -> book.draft(stroke));
            Check.argument("type(" + stroke + ")", () -> book.type(stroke));
            Check.argument("press(" + stroke + ")", () -> book.press(stroke));
        }
        Check.argument("draft(-1)", () -> book.draft(-1));
        Check.due("press of a", book.press(0), NONE);
        Check.due("press of z", book.press(25), NONE);
        Check.argument("press(-1)", () -> book.press(-1));
    }

    private static void modifierSets() {
        ShortcutBook book = Check.loaded("reserve Cz Sz Az Mz;reserve CSAMa;");
        int[] due = {32 + 25, 64 + 25, 128 + 25, 256 + 25};
        for (int i = 0; i < 4; i++) {
            Check.due("a single modifier", book.reservedStroke(0, i), due[i]);
        }
        Check.due("all modifiers", book.reservedStroke(1, 0), 480);
        for (int set = 0; set < 16; set++) {
            ShortcutBook one = new ShortcutBook();
            int stroke = 32 * set;
            Check.due("draft of a with " + set, one.draft(stroke), 1);
            Check.due("draft of z with " + set, one.draft(stroke + 25), 2);
            Check.argument("beyond z with " + set, () -> one.draft(stroke + 26));
            Check.argument("before the next set", () -> one.draft(stroke + 31));
        }
        Check.argument("a sixteenth modifier set", () -> book.draft(512));
        Check.argument("a stroke of the next set", () -> book.type(512 + 25));
    }

    private static void sequenceLengths() {
        Check.due("one", Check.loaded("plain;bind 0 0 a;").binding(0, 2), 1);
        Check.due("four", Check.loaded("plain;bind 0 0 a a a a;").binding(0, 2), 4);
        ShortcutBook book = Check.loaded("plain;");
        Check.due("none", book.bind(0, 0), REFUSED);
        Check.draft(book, "a a a a");
        Check.due("no fifth", book.draft(0), FULL);
        Check.due("four are bound", book.bind(0, 0), 0);
        Check.due("its strokes", book.binding(0, 2), 4);
        Check.textError("plain;bind 0 0;", false, 1, 14);
        Check.textError("plain;bind 0 0 a a a a a;", false, 3, 23);
    }

    private static void properPrefixes() {
        ShortcutBook book = Check.loaded("plain;bind 0 0 a b c d;");
        String[] drafts = {"a", "a b", "a b c", "a b c d", "a c", "b", "Ca", "b c d", "a b d"};
        int[] due = {1, 1, 1, 0, 0, 0, 0, 0, 0};
        for (int i = 0; i < drafts.length; i++) {
            Check.draft(book, drafts[i]);
            Check.due("continuations of " + drafts[i], book.continuations(0), due[i]);
        }
        ShortcutBook shorter = Check.loaded("plain;bind 0 0 a;");
        Check.draft(shorter, "a b");
        Check.due("a longer one is no prefix", shorter.continuations(0), 0);
        Check.due("but has one", shorter.reason(0), 4);
    }

    private static void clashing() {
        String[] one = {"a", "a", "a b", "a b c d", "a b", "a", "a b c", "z", "CSAMz", "a b c d", "a b c d", "a b", "a b c"};
        String[] other = {"a", "a b", "a", "a b c", "a c", "Ca", "a c c", "z z z z", "CSAMz a", "a b c d", "a b c e", "a b", "a b c"};
        int[] due = {1, 1, 1, 1, 0, 0, 0, 1, 1, 1, 0, 1, 1};
        for (int i = 0; i < one.length; i++) {
            ShortcutBook book = Check.loaded("plain;bind 0 0 " + one[i] + ";");
            Check.draft(book, other[i]);
            Check.due(one[i] + " and " + other[i], book.clashes(0), due[i]);
            Check.due("bind of " + other[i], book.bind(0, 0), due[i] == 1 ? CLASH : 1);
        }
    }

    private static void modifierCosts() {
        for (int set = 0; set < 16; set++) {
            ShortcutBook book = new ShortcutBook();
            book.draft(32 * set);
            Check.due("a with " + set, book.draftCost(), 1 + 2 * Integer.bitCount(set));
        }
    }

    private static void keyCosts() {
        String one = "asdfghjkl";
        String two = "qwertyuiop";
        for (char key = 'a'; key <= 'z'; key++) {
            ShortcutBook book = new ShortcutBook();
            book.draft(key - 'a');
            Check.due("draftCost of " + key, book.draftCost(), one.indexOf(key) >= 0 ? 1 : two.indexOf(key) >= 0 ? 2 : 3);
        }
    }

    private static void sequenceCosts() {
        ShortcutBook book = new ShortcutBook();
        Check.draft(book, "a q z Ca");
        Check.due("of four strokes", book.draftCost(), 1 + 2 + 3 + 3);
        Check.draft(book, "a");
        Check.due("of one", book.draftCost(), 1);
        Check.draft(book, "a a");
        Check.due("of one twice", book.draftCost(), 2);
        Check.draft(book, "CSAMz CSAMz CSAMz CSAMz");
        Check.due("the highest", book.draftCost(), 44);
    }

    private static void draftRow() {
        ShortcutBook book = new ShortcutBook();
        Check.due("empty at first", book.count(10), 0);
        Check.due("no first stroke", book.draftStroke(0), NONE);
        Check.due("clearDraft", book.clearDraft(), 0);
        for (int i = 1; i <= 4; i++) {
            Check.due("draft", book.draft(i), i);
            Check.due("count(10)", book.count(10), i);
        }
        Check.due("a fifth", book.draft(5), FULL);
        Check.due("count(10)", book.count(10), 4);
    }

    private static void described() {
        Sentence.told("There are 1 to 6 modes, numbered from 0", BookSentences::sixModes);
        Sentence.told("mode 0 has no parent, each other mode has a parent with a lower number.", BookSentences::parents);
        Sentence.told("There are at most 40 commands, numbered from 0.", BookSentences::fortyCommands);
        Sentence.told("A command has a kind: 0 plain, 1 switch (to a mode, its target), 2 back.", BookSentences::kinds);
        Sentence.told("There are at most 6 reserved sequences, which must stay free", BookSentences::sixReserved);
        Sentence.told("no binding may have a sequence that clashes with one of them.", BookSentences::reservedStayFree);
        Sentence.told("There are at most 80 bindings, numbered from 0 in the order in which they were made", BookSentences::eightyBindings);
        Sentence.told("(the numbers of later ones decrease if one is removed)", BookSentences::laterNumbersDecrease);
        Sentence.told("No two bindings of one mode clash.", BookSentences::noTwoClash);
        Sentence.told("There are at most 10 wishes, which are sequences, numbered from 0.", BookSentences::tenWishes);
    }

    private static void sixModes() {
        ShortcutBook book = new ShortcutBook();
        Check.due("one at first", book.count(0), 1);
        for (int i = 1; i <= 5; i++) {
            Check.due("addMode", book.addMode(0), i);
        }
        Check.due("a seventh", book.addMode(0), FULL);
        Check.due("six", book.count(0), 6);
        Check.due("the last one is used", book.visible(5), 0);
        Check.index("there is no mode 6", () -> book.visible(6));
    }

    private static void parents() {
        ShortcutBook book = new ShortcutBook();
        Check.due("of mode 0", book.parentOf(0), NONE);
        Check.index("a mode that is its own parent", () -> book.addMode(1));
        book.addMode(0);
        Check.due("the lowest", book.parentOf(1), 0);
        book.addMode(1);
        Check.due("the next lower", book.parentOf(2), 1);
        book.addMode(0);
        Check.due("0 again", book.parentOf(3), 0);
    }

    private static void fortyCommands() {
        ShortcutBook book = new ShortcutBook();
        for (int i = 0; i < 40; i++) {
            Check.due("addCommand", book.addCommand(i % 3, 0), i);
        }
        Check.due("a 41st", book.addCommand(0, 0), FULL);
        Check.due("40", book.count(2), 40);
        Check.draft(book, "a");
        Check.due("the last one is bound", book.bind(0, 39), 0);
        Check.index("there is no command 40", () -> book.bind(0, 40));
    }

    private static void kinds() {
        ShortcutBook book = new ShortcutBook();
        book.addMode(0);
        Check.due("plain", book.addCommand(0, 1), 0);
        Check.due("switch", book.addCommand(1, 1), 1);
        Check.due("back", book.addCommand(2, 1), 2);
        int[][] due = {{0, NONE}, {1, 1}, {2, NONE}};
        for (int i = 0; i < 3; i++) {
            Check.due("kind", book.command(i, 0), due[i][0]);
            Check.due("target", book.command(i, 1), due[i][1]);
        }
        Check.argument("a kind 3", () -> book.addCommand(3, 1));
    }

    private static void sixReserved() {
        ShortcutBook book = new ShortcutBook();
        Check.due("none at first", book.count(4), 0);
        Check.draft(book, "a b c d");
        for (int i = 0; i < 6; i++) {
            Check.due("reserve", book.reserve(), i);
        }
        Check.due("a seventh", book.reserve(), FULL);
        Check.due("six", book.count(4), 6);
        Check.due("the last one", book.reservedStroke(5, 3), 3);
    }

    private static void reservedStayFree() {
        ShortcutBook book = Check.loaded("mode 0;plain;reserve p;reserve x y;bind 0 0 x z;");
        for (String draft : new String[] {"x", "x y", "x y z", "p", "p q"}) {
            Check.draft(book, draft);
            Check.due("bind of " + draft, book.bind(0, 0), CLASH);
            Check.due("bind in another mode of " + draft, book.bind(1, 0), CLASH);
            Check.due("force of " + draft, book.force(0, 0), CLASH);
            Check.due("move to " + draft, book.move(0), CLASH);
            Check.due("bindings", book.count(3), 1);
        }
        Check.draft(book, "y");
        Check.due("bind of y", book.bind(0, 0), 1);
    }

    private static void eightyBindings() {
        ShortcutBook book = Check.loaded("mode 0;plain;");
        for (int i = 0; i < 80; i++) {
            book.clearDraft();
            book.draft(32 * (i / 26) + i % 26);
            Check.due("bind", book.bind(i % 2, 0), i);
        }
        Check.draft(book, "Mz");
        Check.due("an 81st", book.bind(0, 0), FULL);
        Check.due("80", book.count(3), 80);
        Check.due("the first one", book.bindingStroke(0, 0), 0);
        Check.due("the last one", book.bindingStroke(79, 0), 32 * 3 + 1);
        Check.due("visible", book.visible(1), 80);
        Check.index("there is no binding 80", () -> book.binding(80, 0));
    }

    private static void laterNumbersDecrease() {
        ShortcutBook book = Check.loaded("mode 0;plain;bind 0 0 a;bind 1 0 b;bind 0 0 c;bind 1 0 d;");
        Check.due("unbind(1)", book.unbind(1), 3);
        int[] due = {0, 2, 3};
        for (int i = 0; i < 3; i++) {
            Check.due("binding " + i, book.bindingStroke(i, 0), due[i]);
        }
        Check.due("the mode goes with it", book.binding(2, 0), 1);
        Check.due("unbind(2), the last one", book.unbind(2), 2);
        Check.due("the others stay", book.bindingStroke(1, 0), 2);
        Check.due("unbind(0), the first one", book.unbind(0), 1);
        Check.due("the last one is the first", book.bindingStroke(0, 0), 2);
        Check.draft(book, "e");
        Check.due("the next number", book.bind(0, 0), 1);
        Check.draft(book, "c d");
        Check.due("force removes one", book.force(0, 0), 1);
        Check.due("a later one decreased", book.bindingStroke(0, 0), 4);
        Check.due("the new one comes last", book.bindingStroke(1, 0), 2);
    }

    private static void noTwoClash() {
        ShortcutBook book = Check.loaded("mode 0;plain;bind 0 0 a b;bind 0 0 c;");
        for (String draft : new String[] {"a", "a b", "a b c", "c", "c d"}) {
            Check.draft(book, draft);
            Check.due("bind of " + draft, book.bind(0, 0), CLASH);
        }
        Check.draft(book, "c d");
        Check.due("move", book.move(0), CLASH);
        Check.due("of two modes", book.bind(1, 0), 2);
        Check.textError("plain;bind 0 0 a;bind 0 0 a;", false, 4, 17);
    }

    private static void tenWishes() {
        ShortcutBook book = new ShortcutBook();
        Check.due("none at first", book.count(8), 0);
        for (int i = 0; i < 10; i++) {
            book.clearDraft();
            book.draft(i);
            Check.due("wish", book.wish(), i);
        }
        Check.due("an eleventh", book.wish(), FULL);
        Check.due("ten", book.count(8), 10);
        for (int i = 0; i < 10; i++) {
            Check.due("draftWish", book.draftWish(i), 1);
            Check.due("its stroke", book.draftStroke(0), i);
        }
    }

    private static void draftPromises() {
        Sentence.promise(8, "Puts a stroke at the end of the draft.", BookSentences::draftEnd);
        Sentence.promise(8, "Returns the number of strokes then; FULL if there are 4.", BookSentences::draftFull);
        Sentence.promise(8, "Throws `IllegalArgumentException` if it is no stroke", BookSentences::draftNoStroke);
        Sentence.promise(9, "Returns the number of strokes that it had.", BookSentences::clearedDraft);
        Sentence.promise(10, "`index`: from 0", BookSentences::draftFromZero);
        Sentence.promise(10, "NONE if there are not so many", BookSentences::draftNotSoMany);
        Sentence.promise(11, "Returns the number of its strokes.", BookSentences::draftFromBinding);
        Sentence.promise(11, "Throws `IndexOutOfBoundsException` if there is no such binding", BookSentences::draftFromNone);
        Sentence.promise(39, "Returns the cost, 0 if it is empty.", BookSentences::costOfEmpty);
    }

    private static void draftEnd() {
        ShortcutBook book = new ShortcutBook();
        int[] strokes = {0, 505, 480, 25};
        for (int i = 0; i < 4; i++) {
            book.draft(strokes[i]);
            for (int k = 0; k <= i; k++) {
                Check.due("draftStroke(" + k + ")", book.draftStroke(k), strokes[k]);
            }
        }
    }

    private static void draftFull() {
        ShortcutBook book = new ShortcutBook();
        for (int i = 1; i <= 4; i++) {
            Check.due("draft", book.draft(505), i);
        }
        Check.due("draft", book.draft(0), FULL);
        Check.due("draft", book.draft(0), FULL);
        Check.argument("no stroke, and full", () -> book.draft(26));
        Check.due("the last one stays", book.draftStroke(3), 505);
        book.clearDraft();
        Check.due("draft when there is room again", book.draft(0), 1);
    }

    private static void draftNoStroke() {
        ShortcutBook book = new ShortcutBook();
        for (int stroke : new int[] {-1, 26, 31, 58, 63, 506, 511, 512, 1024, -32, -512, Integer.MAX_VALUE, Integer.MIN_VALUE}) {
            Check.argument("draft(" + stroke + ")", () -> book.draft(stroke));
        }
        Check.due("draft(0)", book.draft(0), 1);
        Check.due("draft(505)", book.draft(505), 2);
    }

    private static void clearedDraft() {
        ShortcutBook book = new ShortcutBook();
        Check.due("none", book.clearDraft(), 0);
        Check.draft(book, "a b c d");
        Check.due("four", book.clearDraft(), 4);
        Check.due("it is empty", book.count(10), 0);
        Check.due("none", book.clearDraft(), 0);
        book.draft(0);
        Check.due("one", book.clearDraft(), 1);
    }

    private static void draftFromZero() {
        ShortcutBook book = new ShortcutBook();
        book.draft(505);
        Check.due("draftStroke(0)", book.draftStroke(0), 505);
        book.draft(0);
        Check.due("draftStroke(0)", book.draftStroke(0), 505);
        Check.due("draftStroke(1)", book.draftStroke(1), 0);
    }

    private static void draftNotSoMany() {
        ShortcutBook book = new ShortcutBook();
        Check.due("of an empty draft", book.draftStroke(0), NONE);
        Check.draft(book, "a b c");
        Check.due("draftStroke(3) of 3", book.draftStroke(3), NONE);
        Check.draft(book, "a b c d");
        Check.due("draftStroke(3) of 4", book.draftStroke(3), 3);
        Check.due("draftStroke(4) of 4", book.draftStroke(4), NONE);
        for (int index : FAR) {
            Check.due("draftStroke(" + index + ")", book.draftStroke(index), NONE);
        }
    }

    private static void draftFromBinding() {
        ShortcutBook book = Check.loaded("plain;bind 0 0 a;bind 0 0 b c d e;");
        Check.draft(book, "x y");
        Check.due("one", book.draftFrom(0), 1);
        Check.due("no second stroke", book.draftStroke(1), NONE);
        Check.due("four", book.draftFrom(1), 4);
        Check.due("the fourth", book.draftStroke(3), 4);
    }

    private static void draftFromNone() {
        Check.index("of an empty book", () -> new ShortcutBook().draftFrom(0));
        ShortcutBook book = Check.loaded("plain;bind 0 0 a;bind 0 0 b;");
        Check.index("draftFrom(2) of 2", () -> book.draftFrom(2));
        Check.due("draftFrom(1) of 2", book.draftFrom(1), 1);
        for (int binding : FAR) {
            Check.index("draftFrom(" + binding + ")", () -> book.draftFrom(binding));
        }
        book.unbind(0);
        Check.index("a binding that is gone", () -> book.draftFrom(1));
    }

    private static void costOfEmpty() {
        ShortcutBook book = new ShortcutBook();
        Check.due("empty at first", book.draftCost(), 0);
        book.draft(0);
        Check.due("a", book.draftCost(), 1);
        book.clearDraft();
        Check.due("empty again", book.draftCost(), 0);
    }

    private static void modePromises() {
        Sentence.promise(12, "Returns its number; FULL if there are 6.", BookSentences::sixModes);
        Sentence.promise(12, "Throws `IndexOutOfBoundsException` if there is no such mode", BookSentences::addModeToNone);
        Sentence.promise(13, "Returns the parent; NONE for mode 0.", BookSentences::parents);
        Sentence.promise(13, "Throws `IndexOutOfBoundsException` if there is no such mode", BookSentences::parentOfNone);
        Sentence.promise(14, "`kind`: 0 to 2", BookSentences::kinds);
        Sentence.promise(14, "it does not matter for other kinds", BookSentences::targetsOfOthers);
        Sentence.promise(14, "Returns its number; FULL if there are 40.", BookSentences::fortyCommands);
        Sentence.promise(14, "Throws `IllegalArgumentException` if kind is out of range", BookSentences::addCommandOfNoKind);
        Sentence.promise(14, "Throws `IndexOutOfBoundsException` if it is a switch and there is no such mode", BookSentences::switchToNone);
        Sentence.promise(15, "`what`: 0 its kind, 1 its target (NONE if it is no switch), 2 its uses, 3 the number of bindings with it",
            BookSentences::commandProperties);
        Sentence.promise(15, "NONE for any other what", BookSentences::noCommandProperty);
        Sentence.promise(15, "Throws `IndexOutOfBoundsException` if there is no such command", BookSentences::noCommand);
    }

    private static void addModeToNone() {
        ShortcutBook book = new ShortcutBook();
        Check.index("addMode(1) of 1", () -> book.addMode(1));
        for (int mode : FAR) {
            Check.index("addMode(" + mode + ")", () -> book.addMode(mode));
        }
        for (int i = 0; i < 5; i++) {
            Check.due("addMode of the last one", book.addMode(i), i + 1);
        }
        Check.index("no mode, and full", () -> book.addMode(6));
    }

    private static void parentOfNone() {
        ShortcutBook book = Check.loaded("mode 0;");
        Check.due("parentOf(1) of 2", book.parentOf(1), 0);
        Check.index("parentOf(2) of 2", () -> book.parentOf(2));
        for (int mode : FAR) {
            Check.index("parentOf(" + mode + ")", () -> book.parentOf(mode));
        }
    }

    private static void targetsOfOthers() {
        ShortcutBook book = new ShortcutBook();
        int number = 0;
        for (int target : new int[] {-1, 1, 6, Integer.MAX_VALUE, Integer.MIN_VALUE}) {
            Check.due("plain", book.addCommand(0, target), number);
            Check.due("its target", book.command(number, 1), NONE);
            Check.due("back", book.addCommand(2, target), number + 1);
            Check.due("its target", book.command(number + 1, 1), NONE);
            number += 2;
        }
    }

    private static void addCommandOfNoKind() {
        ShortcutBook book = new ShortcutBook();
        Check.argument("addCommand(3, 0)", () -> book.addCommand(3, 0));
        for (int kind : FAR) {
            Check.argument("addCommand(" + kind + ", 0)", () -> book.addCommand(kind, 0));
        }
        for (int i = 0; i < 40; i++) {
            book.addCommand(0, 0);
        }
        Check.argument("no kind, and full", () -> book.addCommand(3, 0));
    }

    private static void switchToNone() {
        ShortcutBook book = new ShortcutBook();
        Check.index("addCommand(1, 1) of 1", () -> book.addCommand(1, 1));
        for (int mode : FAR) {
            Check.index("addCommand(1, " + mode + ")", () -> book.addCommand(1, mode));
        }
        Check.due("to mode 0", book.addCommand(1, 0), 0);
        book.addMode(0);
        Check.due("to the last mode", book.addCommand(1, 1), 1);
        for (int i = 2; i < 40; i++) {
            book.addCommand(0, 0);
        }
        Check.index("no target, and full", () -> book.addCommand(1, 2));
    }

    private static void commandProperties() {
        ShortcutBook book = Check.loaded("mode 0;plain;switch 1;back;switch 0;bind 0 0 a;bind 1 0 a;bind 0 1 b;bind 1 2 c;");
        int[][] due = {{0, NONE, 0, 2}, {1, 1, 0, 1}, {2, NONE, 0, 1}, {1, 0, 0, 0}};
        for (int command = 0; command < 4; command++) {
            for (int what = 0; what < 4; what++) {
                Check.due("command(" + command + ", " + what + ")", book.command(command, what), due[command][what]);
            }
        }
        Check.type(book, "a b a c a");
        Check.due("uses of 0", book.command(0, 2), 3);
        Check.due("uses of 1", book.command(1, 2), 1);
        Check.due("uses of 3", book.command(3, 2), 0);
        book.unbind(0);
        book.unbind(0);
        Check.due("bindings with 0", book.command(0, 3), 0);
        Check.due("uses stay", book.command(0, 2), 3);
    }

    private static void noCommandProperty() {
        ShortcutBook book = Check.loaded("plain;");
        for (int what : new int[] {-1, 4, 5, Integer.MAX_VALUE, Integer.MIN_VALUE}) {
            Check.due("command(0, " + what + ")", book.command(0, what), NONE);
        }
    }

    private static void noCommand() {
        Check.index("of an empty book", () -> new ShortcutBook().command(0, 0));
        ShortcutBook book = Check.loaded("plain;back;");
        Check.due("command(1, 0) of 2", book.command(1, 0), 2);
        Check.index("command(2, 0) of 2", () -> book.command(2, 0));
        Check.index("command(2, 9) of 2", () -> book.command(2, 9));
        for (int command : FAR) {
            Check.index("command(" + command + ", 0)", () -> book.command(command, 0));
        }
    }

    private static void reservedPromises() {
        Sentence.promise(16, "CLASH if it clashes with a binding", BookSentences::reserveClash);
        Sentence.promise(16, "otherwise FULL if there are 6", BookSentences::reserveFull);
        Sentence.promise(17, "NONE if it has not so many", BookSentences::reservedNotSoMany);
        Sentence.promise(17, "`index`: from 0", BookSentences::reservedFromZero);
        Sentence.promise(17, "Throws `IndexOutOfBoundsException` if there is no such reserved sequence", BookSentences::noReserved);
    }

    private static void reserveClash() {
        ShortcutBook book = Check.loaded("mode 0;plain;reserve y;bind 0 0 x;bind 1 0 a b;");
        for (String draft : new String[] {"a", "a b", "a b c", "x", "x a"}) {
            Check.draft(book, draft);
            Check.due("reserve of " + draft, book.reserve(), CLASH);
        }
        Check.draft(book, "a c");
        Check.due("reserve of a c", book.reserve(), 1);
        Check.draft(book, "y");
        Check.due("reserve of a reserved one", book.reserve(), 2);
    }

    private static void reserveFull() {
        ShortcutBook book = Check.loaded("plain;reserve b;reserve b;reserve b;reserve b;reserve b;bind 0 0 a;");
        Check.draft(book, "b");
        Check.due("a sixth", book.reserve(), 5);
        Check.due("a seventh", book.reserve(), FULL);
        Check.draft(book, "a");
        Check.due("a seventh that clashes", book.reserve(), CLASH);
        book.clearDraft();
        Check.due("a seventh that is empty", book.reserve(), REFUSED);
    }

    private static void reservedFromZero() {
        ShortcutBook book = Check.loaded("reserve Ca b c CSAMz;");
        int[] due = {32, 1, 2, 505};
        for (int i = 0; i < 4; i++) {
            Check.due("reservedStroke(0, " + i + ")", book.reservedStroke(0, i), due[i]);
        }
    }

    private static void reservedNotSoMany() {
        ShortcutBook book = Check.loaded("reserve a;reserve a b c d;");
        Check.due("reservedStroke(0, 1)", book.reservedStroke(0, 1), NONE);
        Check.due("reservedStroke(1, 4)", book.reservedStroke(1, 4), NONE);
        for (int index : FAR) {
            Check.due("reservedStroke(1, " + index + ")", book.reservedStroke(1, index), NONE);
        }
    }

    private static void noReserved() {
        Check.index("of an empty book", () -> new ShortcutBook().reservedStroke(0, 0));
        ShortcutBook book = Check.loaded("reserve a;reserve b;");
        Check.due("reservedStroke(1, 0) of 2", book.reservedStroke(1, 0), 1);
        Check.index("reservedStroke(2, 0) of 2", () -> book.reservedStroke(2, 0));
        Check.index("reservedStroke(2, 9) of 2", () -> book.reservedStroke(2, 9));
        for (int reserved : FAR) {
            Check.index("reservedStroke(" + reserved + ", 0)", () -> book.reservedStroke(reserved, 0));
        }
    }

    private static void bindPromises() {
        Sentence.promise(18, "CLASH if it clashes with a reserved sequence or with a binding of this mode", BookSentences::bindClash);
        Sentence.promise(18, "FULL if there are 80 bindings (checked last)", BookSentences::bindFull);
        Sentence.promise(18, "Throws `IndexOutOfBoundsException` if there is no such mode or command", BookSentences::bindNowhere);
    }

    private static void bindClash() {
        ShortcutBook book = Check.loaded("mode 0;plain;reserve x;bind 0 0 a b;");
        for (String draft : new String[] {"a", "a b", "a b c"}) {
            Check.draft(book, draft);
            Check.due("bind of " + draft, book.bind(0, 0), CLASH);
        }
        Check.draft(book, "x a");
        Check.due("bind of a reserved one", book.bind(1, 0), CLASH);
        Check.draft(book, "a");
        Check.due("bind in the child of its mode", book.bind(1, 0), 1);
        Check.draft(book, "a c");
        Check.due("bind in the parent of its mode", book.bind(0, 0), 2);
    }

    static ShortcutBook eighty() {
        ShortcutBook book = Check.loaded("mode 0;plain;reserve z z;");
        for (int i = 0; i < 80; i++) {
            book.clearDraft();
            book.draft(32 * (i / 25) + i % 25);
            book.bind(i % 2, 0);
        }
        return book;
    }

    private static void bindFull() {
        ShortcutBook book = eighty();
        Check.due("80", book.count(3), 80);
        Check.draft(book, "CSAMz");
        Check.due("an 81st", book.bind(0, 0), FULL);
        Check.draft(book, "z");
        Check.due("an 81st that clashes with a reserved one", book.bind(0, 0), CLASH);
        Check.draft(book, "a");
        Check.due("an 81st that clashes with a binding", book.bind(0, 0), CLASH);
        Check.due("an 81st that does not in another mode", book.bind(1, 0), FULL);
        book.clearDraft();
        Check.due("an 81st that is empty", book.bind(0, 0), REFUSED);
        Check.index("an 81st in no mode", () -> book.bind(2, 0));
        book.unbind(79);
        Check.draft(book, "CSAMz");
        Check.due("an 80th", book.bind(0, 0), 79);
    }

    private static void bindNowhere() {
        ShortcutBook book = Check.loaded("mode 0;plain;back;");
        Check.draft(book, "a");
        Check.index("bind(2, 0)", () -> book.bind(2, 0));
        Check.index("bind(0, 2)", () -> book.bind(0, 2));
        for (int number : FAR) {
            Check.index("bind(" + number + ", 0)", () -> book.bind(number, 0));
            Check.index("bind(0, " + number + ")", () -> book.bind(0, number));
        }
        Check.due("the last mode and command", book.bind(1, 1), 0);
        Check.index("bind of a clash to no command", () -> book.bind(1, 2));
        book.clearDraft();
        Check.index("bind of nothing to no command", () -> book.bind(1, 2));
        Check.due("bind of nothing", book.bind(1, 1), REFUSED);
    }

    private static void forcePromises() {
        Sentence.promise(19, "having removed all bindings of this mode with which it clashes", BookSentences::forceRemovesAll);
        Sentence.promise(19, "Returns how many were removed", BookSentences::forceCounts);
        Sentence.promise(19, "CLASH if it clashes with a reserved sequence", BookSentences::forceClash);
        Sentence.promise(19, "FULL if there would be more than 80 bindings", BookSentences::forceFull);
        Sentence.promise(19, "Throws `IndexOutOfBoundsException` if there is no such mode or command", BookSentences::forceNowhere);
    }

    private static void forceRemovesAll() {
        ShortcutBook book = Check.loaded("mode 0;plain;back;bind 0 0 a b;bind 1 0 a c;bind 0 0 a d e;bind 0 0 b;bind 0 0 a f;");
        Check.draft(book, "a");
        Check.due("force", book.force(0, 1), 3);
        Check.due("bindings", book.count(3), 3);
        int[] modes = {1, 0, 0};
        int[] strokes = {0, 1, 0};
        for (int i = 0; i < 3; i++) {
            Check.due("mode of " + i, book.binding(i, 0), modes[i]);
            Check.due("stroke of " + i, book.bindingStroke(i, 0), strokes[i]);
        }
        Check.due("its command", book.binding(2, 1), 1);
        Check.due("its strokes", book.binding(2, 2), 1);
        Check.draft(book, "a b");
        Check.due("a prefix is removed too", book.force(0, 0), 1);
        Check.due("an equal one too", book.force(0, 0), 1);
        Check.due("bindings", book.count(3), 3);
    }

    private static void forceCounts() {
        ShortcutBook book = Check.loaded("mode 0;plain;");
        Check.draft(book, "a");
        Check.due("none", book.force(0, 0), 0);
        Check.due("one", book.force(0, 0), 1);
        Check.due("none in another mode", book.force(1, 0), 0);
        for (int i = 0; i < 78; i++) {
            book.clearDraft();
            book.draft(25);
            book.draft(32 * (i / 26) + i % 26);
            book.bind(0, 0);
        }
        Check.due("80 bindings", book.count(3), 80);
        Check.draft(book, "z");
        Check.due("78", book.force(0, 0), 78);
        Check.due("bindings then", book.count(3), 3);
    }

    private static void forceClash() {
        ShortcutBook book = Check.loaded("plain;reserve x y;bind 0 0 x z;bind 0 0 a;");
        for (String draft : new String[] {"x", "x y", "x y z"}) {
            Check.draft(book, draft);
            Check.due("force of " + draft, book.force(0, 0), CLASH);
            Check.due("none was removed", book.count(3), 2);
        }
        Check.draft(book, "a b");
        Check.due("with a binding it may clash", book.force(0, 0), 1);
        ShortcutBook full = eighty();
        Check.draft(full, "z");
        Check.due("reserved, and full", full.force(0, 0), CLASH);
    }

    private static void forceFull() {
        ShortcutBook book = eighty();
        Check.draft(book, "CSAMz");
        Check.due("an 81st", book.force(0, 0), FULL);
        Check.draft(book, "a");
        Check.due("an 81st in the mode where it does not clash", book.force(1, 0), FULL);
        Check.due("one in place of another", book.force(0, 0), 1);
        Check.due("80", book.count(3), 80);
        Check.due("it is the last one", book.bindingStroke(79, 0), 0);
        book.unbind(0);
        Check.draft(book, "CSAMz");
        Check.due("an 80th", book.force(0, 0), 0);
        Check.due("80", book.count(3), 80);
    }

    private static void forceNowhere() {
        ShortcutBook book = Check.loaded("mode 0;plain;back;");
        Check.draft(book, "a");
        Check.index("force(2, 0)", () -> book.force(2, 0));
        Check.index("force(0, 2)", () -> book.force(0, 2));
        for (int number : FAR) {
            Check.index("force(" + number + ", 0)", () -> book.force(number, 0));
            Check.index("force(0, " + number + ")", () -> book.force(0, number));
        }
        Check.due("the last mode and command", book.force(1, 1), 0);
        book.clearDraft();
        Check.index("force of nothing to no command", () -> book.force(1, 2));
        Check.due("force of nothing", book.force(1, 1), REFUSED);
    }

    private static void changePromises() {
        Sentence.promise(20, "Returns the cost of its new sequence; CLASH if that clashes with a reserved sequence or with another binding of its mode",
            BookSentences::moveClash);
        Sentence.promise(20, "it keeps its number", BookSentences::moveKeepsNumber);
        Sentence.promise(20, "Throws `IndexOutOfBoundsException` if there is no such binding", BookSentences::moveNone);
        Sentence.promise(21, "Returns the number of bindings then.", BookSentences::unbindToNone);
        Sentence.promise(21, "Throws `IndexOutOfBoundsException` if there is no such binding", BookSentences::unbindNone);
        Sentence.promise(22, "`what`: 0 its mode, 1 its command, 2 the number of its strokes, 3 its cost", BookSentences::bindingProperties);
        Sentence.promise(22, "NONE for any other what", BookSentences::noBindingProperty);
        Sentence.promise(22, "Throws `IndexOutOfBoundsException` if there is no such binding", BookSentences::noBinding);
        Sentence.promise(23, "`index`: from 0", BookSentences::bindingFromZero);
        Sentence.promise(23, "NONE if it has not so many", BookSentences::bindingNotSoMany);
        Sentence.promise(23, "Throws `IndexOutOfBoundsException` if there is no such binding", BookSentences::noBindingStroke);
    }

    private static void moveClash() {
        ShortcutBook book = Check.loaded("mode 0;plain;reserve x;bind 0 0 a;bind 0 0 c d;bind 1 0 e;");
        for (String draft : new String[] {"c", "c d", "c d e", "x", "x y"}) {
            Check.draft(book, draft);
            Check.due("move to " + draft, book.move(0), CLASH);
        }
        Check.draft(book, "a");
        Check.due("to what it is", book.move(0), 1);
        Check.draft(book, "a b");
        Check.due("to what it begins", book.move(0), 4);
        Check.draft(book, "a");
        Check.due("to its beginning", book.move(0), 1);
        Check.draft(book, "e");
        Check.due("to that of another mode", book.move(0), 2);
        Check.draft(book, "CSAMz CSAMz CSAMz CSAMz");
        Check.due("to the dearest one", book.move(0), 44);
    }

    private static void moveKeepsNumber() {
        ShortcutBook book = Check.loaded("mode 0;plain;back;bind 0 0 a;bind 1 1 b;bind 0 0 c;");
        Check.draft(book, "z z");
        book.move(1);
        Check.due("its stroke", book.bindingStroke(1, 1), 25);
        Check.due("its mode", book.binding(1, 0), 1);
        Check.due("its command", book.binding(1, 1), 1);
        Check.due("the one before", book.bindingStroke(0, 0), 0);
        Check.due("the one behind", book.bindingStroke(2, 0), 2);
        Check.due("bindings", book.count(3), 3);
    }

    private static void moveNone() {
        ShortcutBook book = Check.loaded("plain;bind 0 0 a;");
        Check.draft(book, "b");
        Check.index("move(1) of 1", () -> book.move(1));
        for (int binding : FAR) {
            Check.index("move(" + binding + ")", () -> book.move(binding));
        }
        book.clearDraft();
        Check.index("move(1) to nothing", () -> book.move(1));
        Check.due("move(0) to nothing", book.move(0), REFUSED);
    }

    private static void unbindToNone() {
        ShortcutBook book = Check.loaded("plain;bind 0 0 a;bind 0 0 b;");
        Check.due("one", book.unbind(1), 1);
        Check.due("none", book.unbind(0), 0);
        ShortcutBook full = eighty();
        Check.due("79", full.unbind(0), 79);
        Check.due("the last one", full.bindingStroke(78, 0), 32 * 3 + 4);
    }

    private static void unbindNone() {
        Check.index("of an empty book", () -> new ShortcutBook().unbind(0));
        ShortcutBook book = Check.loaded("plain;bind 0 0 a;bind 0 0 b;");
        Check.index("unbind(2) of 2", () -> book.unbind(2));
        for (int binding : FAR) {
            Check.index("unbind(" + binding + ")", () -> book.unbind(binding));
        }
        book.unbind(1);
        Check.index("one that is gone", () -> book.unbind(1));
        book.unbind(0);
        Check.index("the last one again", () -> book.unbind(0));
    }

    private static void bindingProperties() {
        ShortcutBook book = Check.loaded("mode 0;plain;back;bind 0 0 a;bind 1 1 CSAMz CSAMz CSAMz CSAMz;");
        int[][] due = {{0, 0, 1, 1}, {1, 1, 4, 44}};
        for (int binding = 0; binding < 2; binding++) {
            for (int what = 0; what < 4; what++) {
                Check.due("binding(" + binding + ", " + what + ")", book.binding(binding, what), due[binding][what]);
            }
        }
    }

    private static void noBindingProperty() {
        ShortcutBook book = Check.loaded("plain;bind 0 0 a;");
        for (int what : new int[] {-1, 4, 5, Integer.MAX_VALUE, Integer.MIN_VALUE}) {
            Check.due("binding(0, " + what + ")", book.binding(0, what), NONE);
        }
    }

    private static void noBinding() {
        Check.index("of an empty book", () -> new ShortcutBook().binding(0, 0));
        ShortcutBook book = Check.loaded("plain;bind 0 0 a;bind 0 0 b;");
        Check.due("binding(1, 2) of 2", book.binding(1, 2), 1);
        Check.index("binding(2, 0) of 2", () -> book.binding(2, 0));
        Check.index("binding(2, 9) of 2", () -> book.binding(2, 9));
        for (int binding : FAR) {
            Check.index("binding(" + binding + ", 0)", () -> book.binding(binding, 0));
        }
    }

    private static void bindingFromZero() {
        ShortcutBook book = Check.loaded("plain;bind 0 0 CSAMz b Ca d;");
        int[] due = {505, 1, 32, 3};
        for (int i = 0; i < 4; i++) {
            Check.due("bindingStroke(0, " + i + ")", book.bindingStroke(0, i), due[i]);
        }
    }

    private static void bindingNotSoMany() {
        ShortcutBook book = Check.loaded("plain;bind 0 0 a;bind 0 0 b c d e;");
        Check.due("bindingStroke(0, 1) of 1", book.bindingStroke(0, 1), NONE);
        Check.due("bindingStroke(1, 4) of 4", book.bindingStroke(1, 4), NONE);
        for (int index : FAR) {
            Check.due("bindingStroke(1, " + index + ")", book.bindingStroke(1, index), NONE);
        }
    }

    private static void noBindingStroke() {
        Check.index("of an empty book", () -> new ShortcutBook().bindingStroke(0, 0));
        ShortcutBook book = Check.loaded("plain;bind 0 0 a;bind 0 0 b;");
        Check.due("bindingStroke(1, 0) of 2", book.bindingStroke(1, 0), 1);
        Check.index("bindingStroke(2, 0) of 2", () -> book.bindingStroke(2, 0));
        Check.index("bindingStroke(2, 9) of 2", () -> book.bindingStroke(2, 9));
        for (int binding : FAR) {
            Check.index("bindingStroke(" + binding + ", 0)", () -> book.bindingStroke(binding, 0));
        }
    }

    private static void clashPromises() {
        Sentence.promise(24, "Returns the lowest one; NONE if there is none.", BookSentences::lowestClash);
        Sentence.promise(24, "Throws `IndexOutOfBoundsException` if there is no such mode",
            () -> noMode("clashing", (book, mode) -> book.clashing(mode)));
        Sentence.promise(25, "Counts the bindings of a mode with which the draft clashes.", BookSentences::countedClashes);
        Sentence.promise(25, "Throws `IndexOutOfBoundsException` if there is no such mode",
            () -> noMode("clashes", (book, mode) -> book.clashes(mode)));
        Sentence.promise(26, "Returns 0 it can be, 1 it clashes with a reserved sequence, 2 it is that of a binding, 3 it is a proper prefix "
            + "of that of a binding, 4 that of a binding is a proper prefix of it", BookSentences::reasons);
        Sentence.promise(26, "(the lowest number that applies but 0)", BookSentences::lowestReason);
        Sentence.promise(26, "Throws `IndexOutOfBoundsException` if there is no such mode",
            () -> noMode("reason", (book, mode) -> book.reason(mode)));
        Sentence.promise(36, "Counts the pairs of an own binding of one mode and an own binding of another one that clash.", BookSentences::clashPairs);
        Sentence.promise(36, "Throws `IndexOutOfBoundsException` if there is no such mode", BookSentences::pairsOfNoMode);
        Sentence.promise(36, "Throws `IllegalArgumentException` if both are one", BookSentences::pairsOfOneMode);
    }

    interface ModeCall {
        long answer(ShortcutBook book, int mode);
    }

    /** A mode that there is not, with a draft and without one. */
    static void noMode(String name, ModeCall call) {
        ShortcutBook book = Check.loaded("mode 0;plain;bind 1 0 a;bind 0 0 b;");
        for (String draft : new String[] {"", "a"}) {
            Check.draft(book, draft);
            Check.index(name + "(2) of 2 modes", () -> call.answer(book, 2));
            for (int mode : FAR) {
                Check.index(name + "(" + mode + ")", () -> call.answer(book, mode));
            }
        }
        for (int mode = 0; mode < 2; mode++) {
            Check.due(name + "(" + mode + ") throws nothing", call.answer(book, mode) >= NONE, true);
        }
    }

    private static void lowestClash() {
        ShortcutBook book = Check.loaded("mode 0;plain;reserve x;bind 1 0 a;bind 0 0 b;bind 0 0 a c;bind 0 0 a b;bind 1 0 c;");
        Check.draft(book, "a");
        Check.due("of two", book.clashing(0), 2);
        Check.due("binding 0", book.clashing(1), 0);
        Check.draft(book, "c d");
        Check.due("the last one", book.clashing(1), 4);
        Check.due("none but in a child", book.clashing(0), NONE);
        Check.draft(book, "b");
        Check.due("none but in the parent", book.clashing(1), NONE);
        Check.draft(book, "x");
        Check.due("none but a reserved one", book.clashing(0), NONE);
        Check.due("no binding at all", clashingIn(new ShortcutBook()), NONE);
        book.clearDraft();
        Check.due("of nothing", book.clashing(0), REFUSED);
    }

    private static int clashingIn(ShortcutBook book) {
        book.draft(0);
        return book.clashing(0);
    }

    private static void countedClashes() {
        ShortcutBook book = Check.loaded("mode 0;plain;reserve x;bind 1 0 a;bind 0 0 b;bind 0 0 a c;bind 0 0 a b;");
        Check.draft(book, "a");
        Check.due("two", book.clashes(0), 2);
        Check.due("one in the child", book.clashes(1), 1);
        Check.draft(book, "b");
        Check.due("none in the child", book.clashes(1), 0);
        Check.draft(book, "x");
        Check.due("none but a reserved one", book.clashes(0), 0);
        book.clearDraft();
        Check.due("of nothing", book.clashes(0), REFUSED);
        ShortcutBook full = Check.loaded("plain;");
        for (int i = 0; i < 80; i++) {
            full.clearDraft();
            full.draft(0);
            full.draft(32 * (i / 26) + i % 26);
            full.bind(0, 0);
        }
        Check.draft(full, "a");
        Check.due("80", full.clashes(0), 80);
    }

    private static void reasons() {
        ShortcutBook book = Check.loaded("mode 0;plain;reserve x y;bind 0 0 a b;bind 1 0 c;");
        String[] drafts = {"c", "x", "x y", "x y z", "a b", "a", "a b c", "a c", "Ca", "x z"};
        int[] due = {0, 1, 1, 1, 2, 3, 4, 0, 0, 0};
        for (int i = 0; i < drafts.length; i++) {
            Check.draft(book, drafts[i]);
            Check.due("reason(0) of " + drafts[i], book.reason(0), due[i]);
        }
        book.clearDraft();
        Check.due("of nothing", book.reason(0), REFUSED);
        ShortcutBook full = eighty();
        Check.draft(full, "CSAMz");
        Check.due("80 bindings are no reason", full.reason(0), 0);
    }

    /** Only 1 can meet another number: of two that clash with the draft otherwise, both would clash. */
    private static void lowestReason() {
        ShortcutBook book = Check.loaded("plain;reserve a b;reserve c d e;bind 0 0 a c;bind 0 0 c d f;");
        Check.draft(book, "a");
        Check.due("1 and 3", book.reason(0), 1);
        Check.draft(book, "c d");
        Check.due("1 and 3", book.reason(0), 1);
        Check.draft(book, "c d f");
        Check.due("2 alone", book.reason(0), 2);
        Check.draft(book, "q");
        Check.due("none", book.reason(0), 0);
    }

    private static void clashPairs() {
        ShortcutBook book = Check.loaded("mode 0;mode 1;mode 0;plain;bind 0 0 a b;bind 0 0 a c;bind 1 0 a;bind 1 0 b;bind 2 0 a b;bind 2 0 b c;");
        Check.due("clashPairs(0, 1)", book.clashPairs(0, 1), 2);
        Check.due("clashPairs(1, 0)", book.clashPairs(1, 0), 2);
        Check.due("clashPairs(1, 2)", book.clashPairs(1, 2), 2);
        Check.due("clashPairs(0, 2)", book.clashPairs(0, 2), 1);
        Check.due("clashPairs(0, 3): none of its own", book.clashPairs(0, 3), 0);
        Check.due("clashPairs(3, 1): none of its own", book.clashPairs(3, 1), 0);
        ShortcutBook full = Check.loaded("mode 0;plain;bind 1 0 a;");
        for (int i = 0; i < 79; i++) {
            full.clearDraft();
            full.draft(0);
            full.draft(32 * (i / 26) + i % 26);
            full.bind(0, 0);
        }
        Check.due("79", full.clashPairs(0, 1), 79);
    }

    private static void pairsOfNoMode() {
        noMode("clashPairs with another", (book, mode) -> book.clashPairs(mode, mode == 0 ? 1 : 0));
        noMode("clashPairs of another", (book, mode) -> book.clashPairs(mode == 0 ? 1 : 0, mode));
        ShortcutBook book = Check.loaded("mode 0;");
        Check.index("both are one that there is not", () -> book.clashPairs(2, 2));
    }

    private static void pairsOfOneMode() {
        ShortcutBook book = Check.loaded("mode 0;");
        Check.argument("clashPairs(0, 0)", () -> book.clashPairs(0, 0));
        Check.argument("clashPairs(1, 1)", () -> book.clashPairs(1, 1));
        Check.due("clashPairs(0, 1)", book.clashPairs(0, 1), 0);
    }

    private static void numberPromises() {
        Sentence.promise(42, "a long that is 0 at first, and for each stroke becomes 512 times itself plus the stroke plus 1.", BookSentences::packedInts);
        Sentence.promise(42, "`kind`: 0 to byte, 1 to short, 2 to char, 3 to int", BookSentences::packedKinds);
        Sentence.promise(42, "Throws `IndexOutOfBoundsException` if there is no such binding", BookSentences::packedNone);
        Sentence.promise(42, "Throws `IllegalArgumentException` if kind is out of range", BookSentences::packedNoKind);
        Sentence.promise(43, "Returns 0 to 4.", BookSentences::common);
        Sentence.promise(43, "Throws `IndexOutOfBoundsException` if there is no such binding", BookSentences::commonOfNone);
        Sentence.promise(44, "up to the first one whose command is no switch", BookSentences::leadingSwitches);
        Sentence.promise(63, "begin with 7", BookSentences::digestOfNothing);
        Sentence.promise(63, "(in int arithmetic, overflow wraps)", BookSentences::digestWraps);
    }

    private static void packedInts() {
        ShortcutBook book = Check.loaded("plain;bind 0 0 a;bind 0 0 CSAMz;bind 0 0 b a a;bind 0 0 c d;");
        Check.due("a", book.packed(0, 3), 1);
        Check.due("the last stroke", book.packed(1, 3), 506);
        Check.due("three strokes", book.packed(2, 3), (2 * 512 + 1) * 512 + 1);
        Check.due("two strokes", book.packed(3, 3), 3 * 512 + 4);
    }

    /** Numbers just beyond what a byte, a short, a char or an int holds. */
    private static void packedKinds() {
        String[] sequences = {"SAMf", "SAMg", "CSAMa a", "CAa CSAMz", "CAb a", "a CMz z", "Sb Sb", "CSAMz CSAMz CSAMz CSAMz",
            "a a a a", "Ma a Ca Sa"};
        for (String sequence : sequences) {
            ShortcutBook book = Check.loaded("plain;bind 0 0 " + sequence + ";");
            long number = 0;
            for (String stroke : sequence.split(" ")) {
                number = 512 * number + Check.stroke(stroke) + 1;
            }
            Check.due("to byte " + sequence, book.packed(0, 0), (byte) number);
            Check.due("to short " + sequence, book.packed(0, 1), (short) number);
            Check.due("to char " + sequence, book.packed(0, 2), (char) number);
            Check.due("to int " + sequence, book.packed(0, 3), (int) number);
        }
        ShortcutBook book = Check.loaded("plain;bind 0 0 Ad;bind 0 0 Ac;bind 0 0 Sx Sx;");
        Check.due("128 and more, to byte", book.packed(0, 0), -124);
        Check.due("128 and more, to short", book.packed(0, 1), 132);
        Check.due("131, to byte", book.packed(1, 0), -125);
        Check.due("32768 and more, to short", book.packed(2, 1), 88 * 512 + 88 - 65536);
        Check.due("32768 and more, to char", book.packed(2, 2), 88 * 512 + 88);
        Check.due("32768 and more, to int", book.packed(2, 3), 88 * 512 + 88);
    }

    private static void packedNone() {
        Check.index("of an empty book", () -> new ShortcutBook().packed(0, 0));
        ShortcutBook book = Check.loaded("plain;bind 0 0 a;");
        Check.index("packed(1, 0) of 1", () -> book.packed(1, 0));
        Check.index("packed(1, 4) of 1", () -> book.packed(1, 4));
        for (int binding : FAR) {
            Check.index("packed(" + binding + ", 0)", () -> book.packed(binding, 0));
        }
    }

    private static void packedNoKind() {
        ShortcutBook book = Check.loaded("plain;bind 0 0 a;");
        Check.argument("packed(0, 4)", () -> book.packed(0, 4));
        for (int kind : FAR) {
            Check.argument("packed(0, " + kind + ")", () -> book.packed(0, kind));
        }
        for (int kind = 0; kind < 4; kind++) {
            Check.due("packed(0, " + kind + ")", book.packed(0, kind), 1);
        }
    }

    private static void common() {
        ShortcutBook book = Check.loaded("mode 0;plain;bind 0 0 a b c d;bind 0 0 a b c e;bind 0 0 a b f;bind 0 0 a d c d;bind 0 0 z b c d;"
            + "bind 1 0 a b c d;bind 1 0 b;bind 0 0 b;bind 0 0 c;");
        int[] others = {0, 1, 2, 3, 4, 5, 6};
        int[] due = {4, 3, 2, 1, 0, 4, 0};
        for (int i = 0; i < others.length; i++) {
            Check.due("common(0, " + others[i] + ")", book.common(0, others[i]), due[i]);
            Check.due("common(" + others[i] + ", 0)", book.common(others[i], 0), due[i]);
        }
        Check.due("of one stroke", book.common(6, 7), 1);
        Check.due("of one stroke with itself", book.common(8, 8), 1);
        Check.due("of two single strokes", book.common(7, 8), 0);
    }

    private static void commonOfNone() {
        ShortcutBook book = Check.loaded("plain;bind 0 0 a;bind 0 0 b;");
        Check.index("common(2, 0)", () -> book.common(2, 0));
        Check.index("common(0, 2)", () -> book.common(0, 2));
        Check.index("common(2, 2)", () -> book.common(2, 2));
        for (int binding : FAR) {
            Check.index("common(" + binding + ", 0)", () -> book.common(binding, 0));
            Check.index("common(0, " + binding + ")", () -> book.common(0, binding));
        }
    }

    private static void leadingSwitches() {
        Check.due("of an empty book", new ShortcutBook().leadingSwitches(), 0);
        Check.due("of commands alone", Check.loaded("switch 0;").leadingSwitches(), 0);
        Check.due("one that is none", Check.loaded("plain;switch 0;bind 0 0 a;bind 0 1 b;").leadingSwitches(), 0);
        Check.due("a back", Check.loaded("back;switch 0;bind 0 0 a;bind 0 1 b;").leadingSwitches(), 0);
        Check.due("two", Check.loaded("plain;switch 0;bind 0 1 a;bind 0 1 b;bind 0 0 c;bind 0 1 d;").leadingSwitches(), 2);
        Check.due("all", Check.loaded("mode 0;switch 1;switch 0;bind 0 0 a;bind 1 1 a;").leadingSwitches(), 2);
    }

    private static void digestOfNothing() {
        Check.due("of an empty book", new ShortcutBook().digest(), 7);
        Check.due("of all but bindings", Check.loaded("mode 0;plain;reserve a;layer q;timeout 9;").digest(), 7);
        ShortcutBook book = Check.loaded("plain;bind 0 0 a;");
        Check.due("of one binding", book.digest(), 7 * 31 * 31 * 31);
        book.unbind(0);
        Check.due("of none again", book.digest(), 7);
    }

    private static void digestWraps() {
        ShortcutBook book = Check.loaded("mode 0;plain;back;bind 1 1 CSAMz CSAMz CSAMz CSAMz;bind 0 0 a b c d;bind 1 0 e;");
        int due = 7;
        for (int number : new int[] {1, 1, 505, 505, 505, 505, 0, 0, 0, 1, 2, 3, 1, 0, 4}) {
            due = 31 * due + number;
        }
        Check.due("of three bindings", book.digest(), due);
        long exact = 7;
        ShortcutBook growing = Check.loaded("plain;");
        for (int i = 0; i < 4; i++) {
            growing.clearDraft();
            growing.draft(i);
            growing.bind(0, 0);
            exact = ((exact * 31) * 31) * 31 + i;
            Check.due("of " + (i + 1) + " bindings", growing.digest(), (int) exact);
        }
        Check.due("it has wrapped", exact > Integer.MAX_VALUE, true);
    }

    private static void wishPromises() {
        Sentence.promise(59, "Returns its number; FULL if there are 10.", BookSentences::wishFull);
        Sentence.promise(60, "Returns how many there were.", BookSentences::clearedWishes);
        Sentence.promise(62, "Throws `IndexOutOfBoundsException` if there is no such wish", BookSentences::noWish);
        Sentence.promise(62, "Returns the number of its strokes.", BookSentences::wishStrokes);
        Sentence.told("Some of them fit a mode together if none of them clashes with a reserved sequence, with a binding of this mode, "
            + "or with another one of them.", BookSentences::fittingWishes);
        Sentence.told("The least drop is the set with the fewest wishes without which all others fit together", BookSentences::fewestWishes);
        Sentence.told("of several, the one with the lowest bit mask (bit k for wish k).", BookSentences::lowestMask);
        Sentence.promise(61, "Returns its bit mask.", BookSentences::masks);
        Sentence.promise(61, "Throws `IndexOutOfBoundsException` if there is no such mode",
            () -> noMode("leastDrop", (book, mode) -> book.leastDrop(mode)));
    }

    private static void wishFull() {
        ShortcutBook book = new ShortcutBook();
        Check.due("an empty draft", book.wish(), REFUSED);
        book.draft(0);
        for (int i = 0; i < 10; i++) {
            Check.due("equal ones too", book.wish(), i);
        }
        Check.due("an eleventh", book.wish(), FULL);
        book.clearDraft();
        Check.due("an eleventh that is empty", book.wish(), REFUSED);
        book.clearWishes();
        book.draft(0);
        Check.due("when there is room again", book.wish(), 0);
    }

    private static void clearedWishes() {
        ShortcutBook book = new ShortcutBook();
        Check.due("none", book.clearWishes(), 0);
        book.draft(0);
        for (int i = 0; i < 10; i++) {
            book.wish();
        }
        Check.due("ten", book.clearWishes(), 10);
        Check.due("none then", book.clearWishes(), 0);
        Check.due("count(8)", book.count(8), 0);
    }

    private static void noWish() {
        ShortcutBook book = new ShortcutBook();
        Check.index("of none", () -> book.draftWish(0));
        Check.draft(book, "a b");
        book.wish();
        Check.index("draftWish(1) of 1", () -> book.draftWish(1));
        for (int wish : FAR) {
            Check.index("draftWish(" + wish + ")", () -> book.draftWish(wish));
        }
        book.clearWishes();
        Check.index("one that is gone", () -> book.draftWish(0));
        Check.due("the draft stays", book.count(10), 2);
    }

    private static void wishStrokes() {
        ShortcutBook book = new ShortcutBook();
        wishAll(book, "a", "b c d e");
        Check.due("four", book.draftWish(1), 4);
        Check.due("the fourth", book.draftStroke(3), 4);
        Check.due("one", book.draftWish(0), 1);
        Check.due("no second", book.draftStroke(1), NONE);
    }

    private static void wishAll(ShortcutBook book, String... all) {
        book.clearWishes();
        for (String one : all) {
            Check.draft(book, one);
            book.wish();
        }
    }

    private static void fittingWishes() {
        ShortcutBook book = Check.loaded("mode 0;mode 1;plain;reserve x y;bind 0 0 a b;bind 1 0 c;bind 2 0 d e;");
        wishAll(book, "x", "x y", "x y z", "x z");
        Check.due("reserved ones", book.leastDrop(0), 7);
        wishAll(book, "a", "c q", "d", "q");
        Check.due("those of mode 0", book.leastDrop(0), 1);
        Check.due("those of mode 1, not those of its parent", book.leastDrop(1), 2);
        Check.due("those of mode 2", book.leastDrop(2), 4);
        wishAll(book, "q", "w", "q r");
        Check.due("one another", book.leastDrop(0), 1);
        wishAll(book, "q", "w", "q");
        Check.due("equal ones", book.leastDrop(0), 1);
    }

    private static void fewestWishes() {
        ShortcutBook book = new ShortcutBook();
        Check.due("of none", book.leastDrop(0), 0);
        wishAll(book, "a b", "a c", "a");
        Check.due("one, though its mask is higher", book.leastDrop(0), 4);
        wishAll(book, "a b", "a c", "a d", "a");
        Check.due("one of four", book.leastDrop(0), 8);
        wishAll(book, "a b c", "a b d", "a b", "a");
        Check.due("two of four", book.leastDrop(0), 4 + 8);
        wishAll(book, "a b", "a", "b c", "b d", "b", "c");
        Check.due("one of each", book.leastDrop(0), 1 + 16);
        wishAll(book, "a", "b", "c");
        Check.due("none", book.leastDrop(0), 0);
    }

    private static void lowestMask() {
        ShortcutBook book = new ShortcutBook();
        wishAll(book, "a", "a b");
        Check.due("the first of two", book.leastDrop(0), 1);
        wishAll(book, "a b", "a");
        Check.due("the first of two", book.leastDrop(0), 1);
        wishAll(book, "q", "a", "a", "a");
        Check.due("the first two of three", book.leastDrop(0), 2 + 4);
        wishAll(book, "a", "b", "b c", "a d");
        Check.due("the first of each", book.leastDrop(0), 1 + 2);
    }

    private static void masks() {
        ShortcutBook book = Check.loaded("reserve a;");
        wishAll(book, "b", "c", "d", "e", "f", "g", "h", "i", "j", "a");
        Check.due("bit 9", book.leastDrop(0), 512);
        wishAll(book, "a", "a", "a", "a", "a", "a", "a", "a", "a", "a");
        Check.due("all bits", book.leastDrop(0), 1023);
        wishAll(book, "b", "b", "b", "b", "b", "b", "b", "b", "b", "b");
        Check.due("all but the last", book.leastDrop(0), 511);
        book.clearWishes();
        Check.due("no bit", book.leastDrop(0), 0);
    }

    private static void snapshotPromises() {
        Sentence.promise(64, "it replaces an earlier one in the same slot", BookSentences::snapshotReplaced);
        Sentence.promise(64, "everything except the input buffer, the error, the draft and the snapshots", BookSentences::snapshotKeeps);
        Sentence.promise(64, "`slot`: 0 or 1", BookSentences::twoSlots);
        Sentence.promise(64, "false if slot is out of range", BookSentences::noSlotToSave);
        Sentence.promise(65, "The snapshot stays in its slot.", BookSentences::snapshotStays);
        Sentence.promise(65, "`slot`: 0 or 1", BookSentences::twoSlots);
        Sentence.promise(65, "false if slot is out of range or has no snapshot", BookSentences::noSnapshot);
    }

    private static void snapshotReplaced() {
        ShortcutBook book = new ShortcutBook();
        for (int slot = 0; slot < 2; slot++) {
            book.saveSnapshot(slot);
            book.addMode(0);
            Check.due("saved again", book.saveSnapshot(slot), true);
            int modes = book.count(0);
            book.addMode(0);
            Check.due("restored", book.restoreSnapshot(slot), true);
            Check.due("the later one", book.count(0), modes);
        }
        book.restoreSnapshot(0);
        Check.due("the other slot keeps its own", book.count(0), 2);
    }

    private static void snapshotKeeps() {
        ShortcutBook book = RefusedSentences.full();
        ShortcutBook same = RefusedSentences.full();
        book.saveSnapshot(1);
        same.saveSnapshot(1);
        changeAll(book);
        book.saveSnapshot(0);
        book.restoreSnapshot(1);
        Check.due("the draft is not restored", book.count(10), 1);
        Check.due("nor the error", book.errorCode(), 1);
        Check.due("nor the input", book.truncateInput(0), 0);
        Check.due("nor the other snapshot", book.restoreSnapshot(0), true);
        Check.due("it holds what was changed", book.count(0), 4);
        book.restoreSnapshot(1);
        Check.draft(book, "f g");
        Check.input(book, "mode 9;");
        book.load();
        Check.input(book, "plain;reserve z");
        Check.due("load drops no snapshot when it fails", book.restoreSnapshot(1), true);
        same.restoreSnapshot(0);
        same.restoreSnapshot(1);
        book.restoreSnapshot(1);
        book.saveSnapshot(0);
        same.saveSnapshot(0);
        Check.due("all else is restored", RefusedSentences.state(book).equals(RefusedSentences.state(same)), true);
    }

    private static void changeAll(ShortcutBook book) {
        book.addMode(2);
        book.addCommand(0, 0);
        book.reserve();
        book.unbind(0);
        book.clearWishes();
        book.hold(1);
        book.release(16);
        book.press(22);
        book.setTimeout(7);
        book.type(4);
        book.tick(100);
        Check.draft(book, "k");
        Check.input(book, "!");
        book.load();
        Check.input(book, "plain;");
    }

    private static void twoSlots() {
        ShortcutBook book = new ShortcutBook();
        Check.due("saveSnapshot(0)", book.saveSnapshot(0), true);
        book.addMode(0);
        Check.due("saveSnapshot(1)", book.saveSnapshot(1), true);
        Check.due("restoreSnapshot(0)", book.restoreSnapshot(0), true);
        Check.due("modes", book.count(0), 1);
        Check.due("restoreSnapshot(1)", book.restoreSnapshot(1), true);
        Check.due("modes", book.count(0), 2);
    }

    private static void noSlotToSave() {
        ShortcutBook book = new ShortcutBook();
        for (int slot : new int[] {-1, 2, Integer.MAX_VALUE, Integer.MIN_VALUE}) {
            Check.due("saveSnapshot(" + slot + ")", book.saveSnapshot(slot), false);
        }
        Check.due("nothing was saved in 0", book.restoreSnapshot(0), false);
        Check.due("nothing was saved in 1", book.restoreSnapshot(1), false);
    }

    private static void snapshotStays() {
        ShortcutBook book = new ShortcutBook();
        book.saveSnapshot(1);
        for (int i = 0; i < 3; i++) {
            book.addMode(0);
            Check.due("restoreSnapshot(1)", book.restoreSnapshot(1), true);
            Check.due("modes", book.count(0), 1);
        }
    }

    private static void noSnapshot() {
        ShortcutBook book = new ShortcutBook();
        Check.due("0 has none", book.restoreSnapshot(0), false);
        Check.due("1 has none", book.restoreSnapshot(1), false);
        book.saveSnapshot(0);
        Check.due("1 has still none", book.restoreSnapshot(1), false);
        for (int slot : new int[] {-1, 2, Integer.MAX_VALUE, Integer.MIN_VALUE}) {
            Check.due("restoreSnapshot(" + slot + ")", book.restoreSnapshot(slot), false);
        }
        Check.due("0 has one", book.restoreSnapshot(0), true);
        book.saveSnapshot(1);
        for (int slot : new int[] {-1, 2, 3, Integer.MAX_VALUE, Integer.MIN_VALUE}) {
            Check.due("restoreSnapshot(" + slot + ") when both have one", book.restoreSnapshot(slot), false);
        }
        book.load();
        Check.due("none is left by a load", book.restoreSnapshot(0), false);
    }
}
