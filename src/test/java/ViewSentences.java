/** Boundary cases of visible bindings, of free sequences and of what they cost. */
final class ViewSentences {
    private static final int NONE = ShortcutBook.NONE;
    private static final int REFUSED = ShortcutBook.REFUSED;
    private static final int[] FAR = {-1, -2, Integer.MAX_VALUE, Integer.MIN_VALUE};

    private ViewSentences() {
    }

    static void all() {
        visiblePromises();
        shadowPromises();
        commandPromises();
        freePromises();
        costPromises();
    }

    private static void visiblePromises() {
        Sentence.told("The visible bindings of a mode are its own ones and those visible bindings of its parent that clash with none "
            + "of its own ones", ViewSentences::visibleChain);
        Sentence.told("the latter are shadowed in it.", ViewSentences::shadowedInIt);
        Sentence.told("Sequences are compared lexicographically as rows of numbers (a proper prefix comes first).", ViewSentences::order);
        Sentence.promise(27, "Returns the binding; NONE if there is none.", ViewSentences::look);
        Sentence.promise(27, "Throws `IndexOutOfBoundsException` if there is no such mode",
            () -> BookSentences.noMode("look", (book, mode) -> book.look(mode)));
        Sentence.promise(28, "of whose sequences the draft is a proper prefix (all of them if it is empty)", ViewSentences::continuations);
        Sentence.promise(28, "Throws `IndexOutOfBoundsException` if there is no such mode",
            () -> BookSentences.noMode("continuations", (book, mode) -> book.continuations(mode)));
        Sentence.promise(29, "Counts the visible bindings of a mode.", ViewSentences::visibleNumbers);
        Sentence.promise(29, "Throws `IndexOutOfBoundsException` if there is no such mode",
            () -> BookSentences.noMode("visible", (book, mode) -> book.visible(mode)));
        Sentence.promise(30, "`index`: from 0, by ascending sequences", ViewSentences::visibleFromZero);
        Sentence.promise(30, "NONE if there are not so many", ViewSentences::visibleNotSoMany);
        Sentence.promise(30, "Throws `IndexOutOfBoundsException` if there is no such mode",
            () -> BookSentences.noMode("visibleAt", (book, mode) -> book.visibleAt(mode, 0)));
        Sentence.promise(34, "from one stroke on (whole sequences included)", ViewSentences::prefixes);
        Sentence.promise(34, "Counts the distinct prefixes", ViewSentences::distinctPrefixes);
        Sentence.promise(34, "Throws `IndexOutOfBoundsException` if there is no such mode",
            () -> BookSentences.noMode("prefixes", (book, mode) -> book.prefixes(mode)));
    }

    /** What is shadowed half way down is not seen below, whatever becomes of its shadow there. */
    private static void visibleChain() {
        ShortcutBook book = Check.loaded("mode 0;mode 1;mode 2;mode 3;mode 4;plain;bind 0 0 a b;bind 0 0 q;bind 1 0 a;bind 2 0 a c;bind 5 0 q w;");
        int[] due = {2, 2, 2, 2, 2, 2};
        for (int mode = 0; mode < 6; mode++) {
            Check.due("visible(" + mode + ")", book.visible(mode), due[mode]);
        }
        Check.draft(book, "a b");
        Check.due("a b in mode 0", book.look(0), 0);
        Check.due("a b in mode 1", book.look(1), NONE);
        Check.due("a b in mode 2, where it clashes with nothing", book.look(2), NONE);
        Check.draft(book, "a c");
        Check.due("a c in mode 5", book.look(5), 3);
        Check.draft(book, "q");
        Check.due("q in mode 4", book.look(4), 1);
        Check.due("q in mode 5", book.look(5), NONE);
        Check.draft(book, "a");
        Check.due("a of a child in its parent", book.look(0), NONE);
    }

    private static void shadowedInIt() {
        for (String own : new String[] {"a b", "a", "a b c", "a b c d"}) {
            ShortcutBook book = Check.loaded("mode 0;mode 0;plain;bind 0 0 a b;bind 1 0 " + own + ";");
            Check.due("visible in mode 0", book.visible(0), 1);
            Check.due("shadowed by " + own, book.visible(1), 1);
            Check.due("by this one", book.shadowOf(1, 0), 1);
            Check.due("not in another mode", book.visible(2), 1);
            book.unbind(1);
            Check.due("not when that is gone", book.look(draftAB(book)), 0);
        }
        ShortcutBook book = Check.loaded("mode 0;plain;bind 0 0 a b;bind 1 0 a c;bind 1 0 b;bind 1 0 Ca;");
        Check.due("no clash", book.visible(1), 4);
    }

    private static int draftAB(ShortcutBook book) {
        Check.draft(book, "a b");
        return 1;
    }

    private static void order() {
        ShortcutBook book = Check.loaded("mode 0;plain;bind 0 0 Ma;bind 0 0 b z;bind 0 0 b a;bind 0 0 z;bind 0 0 Ca;bind 0 0 b Ca a;"
            + "bind 0 0 a CSAMz CSAMz CSAMz;bind 1 0 c;");
        int[] due = {6, 2, 1, 5, 3, 4, 0, NONE};
        for (int i = 0; i < due.length; i++) {
            Check.due("visibleAt(0, " + i + ")", book.visibleAt(0, i), due[i]);
        }
        int[] child = {6, 2, 1, 5, 7, 3, 4, 0, NONE};
        for (int i = 0; i < child.length; i++) {
            Check.due("visibleAt(1, " + i + ")", book.visibleAt(1, i), child[i]);
        }
        ShortcutBook close = Check.loaded("plain;bind 0 0 a a a b;bind 0 0 a a a a;bind 0 0 a a b;bind 0 0 a b a;");
        int[] last = {1, 0, 2, 3};
        for (int i = 0; i < last.length; i++) {
            Check.due("the last stroke counts too: " + i, close.visibleAt(0, i), last[i]);
        }
    }

    private static void look() {
        ShortcutBook book = Check.loaded("mode 0;plain;bind 0 0 a b;bind 0 0 c;bind 1 0 c d;");
        String[] drafts = {"a b", "a", "a b c", "c", "c d", "q"};
        int[] zero = {0, NONE, NONE, 1, NONE, NONE};
        int[] one = {0, NONE, NONE, NONE, 2, NONE};
        for (int i = 0; i < drafts.length; i++) {
            Check.draft(book, drafts[i]);
            Check.due("look(0) of " + drafts[i], book.look(0), zero[i]);
            Check.due("look(1) of " + drafts[i], book.look(1), one[i]);
        }
        book.clearDraft();
        Check.due("look of nothing", book.look(0), REFUSED);
        ShortcutBook empty = new ShortcutBook();
        empty.draft(0);
        Check.due("look in an empty book", empty.look(0), NONE);
    }

    private static void continuations() {
        ShortcutBook book = Check.loaded("mode 0;plain;bind 0 0 a b c d;bind 0 0 a b d;bind 0 0 c;bind 1 0 c d;bind 1 0 q;");
        String[] drafts = {"", "a", "a b", "a b c", "a b c d", "a b d", "c", "q", "Ca"};
        int[] zero = {3, 2, 2, 1, 0, 0, 0, 0, 0};
        int[] one = {4, 2, 2, 1, 0, 0, 1, 0, 0};
        for (int i = 0; i < drafts.length; i++) {
            Check.draft(book, drafts[i]);
            Check.due("continuations(0) of " + drafts[i], book.continuations(0), zero[i]);
            Check.due("continuations(1) of " + drafts[i], book.continuations(1), one[i]);
        }
        Check.due("of nothing in an empty book", new ShortcutBook().continuations(0), 0);
    }

    private static void visibleNumbers() {
        Check.due("of an empty book", new ShortcutBook().visible(0), 0);
        ShortcutBook book = BookSentences.eighty();
        Check.due("40 own ones", book.visible(0), 40);
        Check.due("40 own ones and 40 of the parent", book.visible(1), 80);
        Check.draft(book, "a");
        book.force(1, 0);
        Check.due("it was full", book.visible(1), 80);
        book.unbind(1);
        book.force(1, 0);
        Check.due("one is shadowed", book.visible(1), 79);
    }

    private static void visibleFromZero() {
        ShortcutBook book = Check.loaded("mode 0;plain;bind 0 0 c;bind 1 0 a;bind 0 0 b;");
        Check.due("visibleAt(0, 0)", book.visibleAt(0, 0), 2);
        Check.due("visibleAt(0, 1)", book.visibleAt(0, 1), 0);
        Check.due("visibleAt(1, 0)", book.visibleAt(1, 0), 1);
        Check.due("visibleAt(1, 2)", book.visibleAt(1, 2), 0);
        ShortcutBook full = BookSentences.eighty();
        Check.due("the first of 80", full.visibleAt(1, 0), 0);
        Check.due("the last of 80", full.visibleAt(1, 79), 79);
    }

    private static void visibleNotSoMany() {
        Check.due("of an empty book", new ShortcutBook().visibleAt(0, 0), NONE);
        ShortcutBook book = Check.loaded("mode 0;plain;bind 0 0 a;bind 0 0 b;bind 1 0 a b;");
        Check.due("visibleAt(0, 2) of 2", book.visibleAt(0, 2), NONE);
        Check.due("visibleAt(1, 1) of 2", book.visibleAt(1, 1), 1);
        Check.due("visibleAt(1, 2) of 2", book.visibleAt(1, 2), NONE);
        for (int index : FAR) {
            Check.due("visibleAt(0, " + index + ")", book.visibleAt(0, index), NONE);
        }
        Check.due("the 81st of 80", BookSentences.eighty().visibleAt(1, 80), NONE);
    }

    private static void prefixes() {
        Check.due("of an empty book", new ShortcutBook().prefixes(0), 0);
        Check.due("one stroke", Check.loaded("plain;bind 0 0 a;").prefixes(0), 1);
        Check.due("four strokes", Check.loaded("plain;bind 0 0 a a a a;").prefixes(0), 4);
    }

    private static void distinctPrefixes() {
        ShortcutBook book = Check.loaded("mode 0;plain;bind 0 0 a b c d;bind 0 0 a b c e;bind 0 0 a f;bind 0 0 q b c d;bind 1 0 a b;bind 1 0 w;");
        Check.due("prefixes(0)", book.prefixes(0), 4 + 1 + 1 + 4);
        Check.due("those that are shadowed do not count", book.prefixes(1), 2 + 1 + 4 + 1);
        Check.due("of the same strokes in another order", Check.loaded("plain;bind 0 0 a b;bind 0 0 b a;").prefixes(0), 4);
    }

    private static void shadowPromises() {
        Sentence.promise(31, "in the first mode, going down from child to child, in which it is not visible any more, by the lowest own binding "
            + "with which it clashes", ViewSentences::shadowOf);
        Sentence.promise(31, "NONE if it is visible in the mode, or if its mode is not above it", ViewSentences::noShadow);
        Sentence.promise(31, "Throws `IndexOutOfBoundsException` if there is no such mode or binding", ViewSentences::shadowOfNone);
    }

    private static void shadowOf() {
        ShortcutBook book = Check.loaded("mode 0;mode 1;mode 2;mode 3;mode 4;plain;bind 5 0 a z;bind 3 0 a y;bind 3 0 a x;bind 0 0 a;"
            + "bind 4 0 a;bind 1 0 b;");
        Check.due("two modes down it is visible", book.shadowOf(2, 3), NONE);
        Check.due("the first mode: the lowest of its own", book.shadowOf(3, 3), 1);
        Check.due("further down: still that one", book.shadowOf(4, 3), 1);
        Check.due("at the end: still that one", book.shadowOf(5, 3), 1);
        Check.due("another one on the same way", book.shadowOf(5, 1), 4);
        Check.due("the last one", book.shadowOf(5, 4), 0);
        Check.due("one that nothing shadows", book.shadowOf(5, 5), NONE);
    }

    private static void noShadow() {
        ShortcutBook book = Check.loaded("mode 0;mode 0;mode 1;plain;bind 0 0 a;bind 1 0 a b;bind 2 0 a c;bind 3 0 q;");
        Check.due("in its own mode", book.shadowOf(0, 0), NONE);
        Check.due("in its own mode, a clash above", book.shadowOf(1, 1), NONE);
        Check.due("visible below", book.shadowOf(3, 1), NONE);
        Check.due("its mode is below", book.shadowOf(0, 1), NONE);
        Check.due("its mode is beside", book.shadowOf(1, 2), NONE);
        Check.due("its mode is beside, with a higher number", book.shadowOf(2, 1), NONE);
        Check.due("its mode is on another branch", book.shadowOf(3, 2), NONE);
        Check.due("its mode is above", book.shadowOf(3, 0), 1);
        book.unbind(1);
        Check.due("its shadow is gone", book.shadowOf(3, 0), NONE);
    }

    private static void shadowOfNone() {
        ShortcutBook book = Check.loaded("mode 0;plain;bind 0 0 a;bind 1 0 a;");
        Check.due("shadowOf(1, 0)", book.shadowOf(1, 0), 1);
        Check.index("shadowOf(2, 0)", () -> book.shadowOf(2, 0));
        Check.index("shadowOf(0, 2)", () -> book.shadowOf(0, 2));
        for (int number : FAR) {
            Check.index("shadowOf(" + number + ", 0)", () -> book.shadowOf(number, 0));
            Check.index("shadowOf(0, " + number + ")", () -> book.shadowOf(0, number));
        }
        Check.index("of an empty book", () -> new ShortcutBook().shadowOf(0, 0));
    }

    private static void commandPromises() {
        Sentence.promise(32, "Counts the commands that have a visible binding in a mode.", ViewSentences::reachable);
        Sentence.promise(32, "Throws `IndexOutOfBoundsException` if there is no such mode",
            () -> BookSentences.noMode("reachable", (book, mode) -> book.reachable(mode)));
        Sentence.promise(33, "Counts the commands that have a visible binding in no mode.", ViewSentences::unreachable);
        Sentence.promise(35, "Finds the visible binding of a mode with a command that has the least cost.", ViewSentences::leastCost);
        Sentence.promise(35, "Returns the binding, of several the lowest one; NONE if there is none.", ViewSentences::bestFor);
        Sentence.promise(35, "Throws `IndexOutOfBoundsException` if there is no such mode or command", ViewSentences::bestForNone);
    }

    private static void reachable() {
        Check.due("of an empty book", new ShortcutBook().reachable(0), 0);
        ShortcutBook book = Check.loaded("mode 0;plain;plain;plain;bind 0 0 a;bind 0 0 b;bind 0 1 c;bind 1 2 c d;");
        Check.due("reachable(0): each once", book.reachable(0), 2);
        Check.due("reachable(1): 1 is shadowed", book.reachable(1), 2);
        ShortcutBook full = new ShortcutBook();
        for (int i = 0; i < 40; i++) {
            full.addCommand(0, 0);
            full.clearDraft();
            full.draft(32 * (i / 26) + i % 26);
            full.bind(0, i);
        }
        Check.due("all 40", full.reachable(0), 40);
        Check.due("of none", Check.loaded("plain;plain;").reachable(0), 0);
    }

    private static void unreachable() {
        Check.due("of an empty book", new ShortcutBook().unreachable(), 0);
        Check.due("all 40", Check.loaded("plain;".repeat(40)).unreachable(), 40);
        ShortcutBook book = Check.loaded("mode 0;plain;plain;plain;bind 0 0 a;bind 1 1 a b;");
        Check.due("one is shadowed in one mode alone", book.unreachable(), 1);
        book.unbind(0);
        Check.due("two", book.unreachable(), 2);
        Check.due("none", Check.loaded("plain;bind 0 0 a;").unreachable(), 0);
    }

    private static void bestFor() {
        ShortcutBook book = Check.loaded("mode 0;plain;back;bind 0 0 z;bind 0 0 Ca;bind 0 0 b;bind 1 0 q;bind 1 1 z;");
        Check.due("of three the lowest one", book.bestFor(0, 0), 0);
        Check.due("none", book.bestFor(0, 1), NONE);
        Check.due("a cheaper one with a higher number", book.bestFor(1, 0), 3);
        book.unbind(3);
        Check.due("the lowest one is shadowed", book.bestFor(1, 0), 1);
        Check.due("its shadow", book.bestFor(1, 1), 3);
    }

    private static void leastCost() {
        ShortcutBook book = Check.loaded("plain;back;bind 0 0 a a a;bind 0 1 s;bind 0 0 q;bind 0 0 z;bind 0 0 CSAMd;bind 0 1 w;");
        Check.due("of four", book.bestFor(0, 0), 2);
        Check.due("of two", book.bestFor(0, 1), 1);
        book.unbind(2);
        Check.due("of three: three strokes and one cost the same", book.bestFor(0, 0), 0);
        Check.draft(book, "Sa Sa Sa");
        book.move(0);
        Check.due("the first one is dearer", book.bestFor(0, 0), 2);
    }

    private static void bestForNone() {
        ShortcutBook book = Check.loaded("mode 0;plain;bind 0 0 a;");
        Check.due("bestFor(1, 0)", book.bestFor(1, 0), 0);
        Check.index("bestFor(2, 0)", () -> book.bestFor(2, 0));
        Check.index("bestFor(0, 1)", () -> book.bestFor(0, 1));
        for (int number : FAR) {
            Check.index("bestFor(" + number + ", 0)", () -> book.bestFor(number, 0));
            Check.index("bestFor(0, " + number + ")", () -> book.bestFor(0, number));
        }
        Check.index("of an empty book", () -> new ShortcutBook().bestFor(0, 0));
    }

    private static void freePromises() {
        Sentence.promise(37, "Counts the single strokes without modifiers, or with exactly one", ViewSentences::freeStrokes);
        Sentence.promise(37, "Returns 0 to 130.", ViewSentences::freeNumbers);
        Sentence.promise(37, "Throws `IndexOutOfBoundsException` if there is no such mode",
            () -> BookSentences.noMode("freeStrokes", (book, mode) -> book.freeStrokes(mode)));
        Sentence.promise(38, "of strokes with at most one modifier", ViewSentences::atMostOneModifier);
        Sentence.promise(38, "of several the lexicographically smallest one. It becomes the draft.", ViewSentences::smallest);
        Sentence.promise(38, "`length`: 1 or 2", ViewSentences::bothLengths);
        Sentence.promise(38, "`shadows`: whether it may clash with visible bindings of the parent of the mode", ViewSentences::shadows);
        Sentence.promise(38, "Returns its cost; NONE if there is none (the draft stays then).", ViewSentences::thereIsAlwaysOne);
        Sentence.promise(38, "Throws `IndexOutOfBoundsException` if there is no such mode",
            () -> BookSentences.noMode("cheapest", (book, mode) -> book.cheapest(mode, 1, false)));
        Sentence.promise(38, "Throws `IllegalArgumentException` if length is out of range", ViewSentences::noLength);
    }

    private static void freeStrokes() {
        Check.due("two modifiers do not count", Check.loaded("plain;bind 0 0 CSa;reserve AMb;").freeStrokes(0), 130);
        Check.due("none does", Check.loaded("plain;bind 0 0 a;").freeStrokes(0), 129);
        Check.due("each single one does", Check.loaded("plain;bind 0 0 Ca;bind 0 0 Sb;bind 0 0 Ac;reserve Mz;").freeStrokes(0), 126);
        Check.due("the beginning of a longer one", Check.loaded("plain;bind 0 0 a b c d;bind 0 0 a c;reserve z z;").freeStrokes(0), 128);
        ShortcutBook book = Check.loaded("mode 0;plain;bind 0 0 a;bind 1 0 b;bind 1 0 c;");
        Check.due("own ones of mode 0", book.freeStrokes(0), 129);
        Check.due("own ones of mode 1", book.freeStrokes(1), 128);
        Check.due("reserved twice", Check.loaded("reserve a;reserve a;").freeStrokes(0), 129);
    }

    /** 80 bindings and 6 reserved strokes leave 44 of the 130, so fewer are never free. */
    private static ShortcutBook crowded() {
        ShortcutBook book = Check.loaded("mode 0;plain;");
        int[] sets = {0, 1, 2, 4, 8};
        for (int i = 0; i < 86; i++) {
            book.clearDraft();
            book.draft(32 * sets[i / 26] + i % 26);
            if (i < 80) {
                book.bind(0, 0);
            } else {
                book.reserve();
            }
        }
        return book;
    }

    private static void freeNumbers() {
        Check.due("130", new ShortcutBook().freeStrokes(0), 130);
        ShortcutBook book = crowded();
        Check.due("bindings", book.count(3), 80);
        Check.due("reserved", book.count(4), 6);
        Check.due("the fewest", book.freeStrokes(0), 44);
        Check.due("the reserved ones alone", book.freeStrokes(1), 124);
    }

    private static void atMostOneModifier() {
        StringBuilder text = new StringBuilder("plain;");
        for (char key : "asdfghjkl".toCharArray()) {
            for (String set : new String[] {"", "C", "S", "A", "M"}) {
                text.append("bind 0 0 ").append(set).append(key).append(';');
            }
        }
        ShortcutBook book = Check.loaded(text.toString());
        Check.due("e", book.cheapest(0, 1, false), 2);
        Check.due("e", book.draftStroke(0), 4);
        // With all keys alone and all home keys with one modifier gone, CSa and Cq would cost the same or less.
        for (char key : "qwertyuiopzxcvbnm".toCharArray()) {
            Check.draft(book, String.valueOf(key));
            book.bind(0, 0);
        }
        Check.due("Ce", book.cheapest(0, 1, false), 4);
        Check.due("Ce", book.draftStroke(0), 36);
        ShortcutBook crowd = crowded();
        Check.due("Aj", crowd.cheapest(0, 1, false), 3);
        Check.due("Aj", crowd.draftStroke(0), 128 + 9);
        for (int modifier = 1; modifier <= 4; modifier++) {
            eachModifier(modifier);
        }
    }

    /** All keys alone are bound, and the home keys with the modifiers before this one: alone, and behind a. */
    private static void eachModifier(int modifier) {
        ShortcutBook alone = Check.loaded("plain;");
        ShortcutBook behind = Check.loaded("plain;");
        bindAll(behind, "sdfghjklqwertyuiop", 0, -1);
        bindAll(alone, "abcdefghijklmnopqrstuvwxyz", 0, -1);
        bindAll(behind, "abcdefghijklmnopqrstuvwxyz", 0, 0);
        for (int before = 1; before < modifier; before++) {
            bindAll(alone, "asdfghjkl", 1 << before - 1, -1);
            bindAll(behind, "asdfghjkl", 1 << before - 1, 0);
        }
        int due = 32 << modifier - 1;
        Check.due("one stroke", alone.cheapest(0, 1, false), 3);
        Check.due("its modifier", alone.draftStroke(0), due);
        Check.due("two strokes", alone.cheapest(0, 2, false), 4);
        Check.due("the modifier of the first", alone.draftStroke(0), due);
        Check.due("the second", alone.draftStroke(1), 0);
        Check.due("two strokes", behind.cheapest(0, 2, false), 4);
        Check.due("the first", behind.draftStroke(0), 0);
        Check.due("the modifier of the second", behind.draftStroke(1), due);
    }

    private static void bindAll(ShortcutBook book, String keys, int set, int first) {
        for (char key : keys.toCharArray()) {
            book.clearDraft();
            if (first >= 0) {
                book.draft(first);
            }
            book.draft(32 * set + key - 'a');
            book.bind(0, 0);
        }
    }

    private static void smallest() {
        ShortcutBook book = new ShortcutBook();
        Check.due("one stroke", book.cheapest(0, 1, false), 1);
        Check.due("a", book.draftStroke(0), 0);
        Check.due("no second", book.count(10), 1);
        Check.due("two strokes", book.cheapest(0, 2, false), 2);
        Check.due("a", book.draftStroke(0), 0);
        Check.due("a", book.draftStroke(1), 0);
        Check.due("no third", book.count(10), 2);
        ShortcutBook least = Check.loaded("plain;reserve a;bind 0 0 s;");
        Check.due("the least cost, not the smallest", least.cheapest(0, 1, false), 1);
        Check.due("d", least.draftStroke(0), 3);
        ShortcutBook pair = Check.loaded("plain;reserve a a;bind 0 0 a d;bind 0 0 a f a a;");
        Check.due("the least second stroke that is free", pair.cheapest(0, 2, false), 2);
        Check.due("a", pair.draftStroke(0), 0);
        Check.due("g", pair.draftStroke(1), 6);
        Check.draft(pair, "a");
        ShortcutBook whole = Check.loaded("plain;bind 0 0 a;");
        Check.due("the least first stroke that is free", whole.cheapest(0, 2, false), 2);
        Check.due("d", whole.draftStroke(0), 3);
        Check.due("a", whole.draftStroke(1), 0);
    }

    private static void bothLengths() {
        ShortcutBook book = Check.loaded("plain;bind 0 0 d b;");
        Check.due("cheapest(0, 1)", book.cheapest(0, 1, true), 1);
        Check.due("one stroke", book.count(10), 1);
        Check.due("cheapest(0, 2)", book.cheapest(0, 2, true), 2);
        Check.due("two strokes", book.count(10), 2);
    }

    private static void shadows() {
        ShortcutBook book = Check.loaded("mode 0;mode 1;plain;bind 0 0 a;bind 0 0 d q;bind 1 0 s;bind 1 0 f;bind 2 0 g;bind 1 0 d;");
        Check.due("it may", book.cheapest(2, 1, true), 1);
        Check.due("a", book.draftStroke(0), 0);
        Check.due("it may not", book.cheapest(2, 1, false), 1);
        Check.due("h, for a, s, d and f are visible above", book.draftStroke(0), 7);
        Check.due("mode 0 has no parent", book.cheapest(0, 1, false), 1);
        Check.due("f: d has a continuation", book.draftStroke(0), 5);
        ShortcutBook hidden = Check.loaded("mode 0;mode 1;plain;bind 0 0 a b;bind 1 0 a b c;");
        Check.due("a shadowed one does not bar", hidden.cheapest(2, 2, false), 2);
        Check.due("a", hidden.draftStroke(0), 0);
        Check.due("a", hidden.draftStroke(1), 0);
        ShortcutBook late = Check.loaded("mode 0;mode 1;plain;bind 0 0 a;bind 1 0 a b;");
        Check.due("a is shadowed in mode 1 by a b", late.cheapest(2, 2, false), 2);
        Check.due("a a is free", late.draftStroke(0), 0);
        Check.due("in mode 1 a itself bars", late.cheapest(1, 2, false), 2);
        Check.due("d a", late.draftStroke(0), 3);
    }

    private static void thereIsAlwaysOne() {
        ShortcutBook book = crowded();
        Check.due("of one stroke", book.cheapest(0, 1, true), 3);
        Check.due("of one stroke that shadows none", book.cheapest(1, 1, false), 3);
        Check.due("of two strokes", book.cheapest(0, 2, true), 4);
        Check.due("of two strokes that shadow none", book.cheapest(1, 2, false), 4);
        Check.due("Aj", book.draftStroke(0), 128 + 9);
        Check.due("a", book.draftStroke(1), 0);
        Check.due("in mode 1 that may shadow", book.cheapest(1, 1, true), 1);
        Check.due("80 bindings do not matter", book.count(3), 80);
    }

    private static void noLength() {
        ShortcutBook book = new ShortcutBook();
        Check.draft(book, "q");
        for (int length : new int[] {0, 3, 4, -1, Integer.MAX_VALUE, Integer.MIN_VALUE}) {
            Check.argument("cheapest(0, " + length + ", true)", () -> book.cheapest(0, length, true));
        }
        Check.due("the draft stays", book.draftStroke(0), 16);
        Check.index("no mode first", () -> book.cheapest(1, 3, true));
    }

    private static void costPromises() {
        Sentence.promise(40, "times the uses, over all commands that have one.", ViewSentences::effort);
        Sentence.promise(40, "Throws `IndexOutOfBoundsException` if there is no such mode",
            () -> BookSentences.noMode("effort", (book, mode) -> book.effort(mode)));
        Sentence.promise(41, "(float) sum / (float) number", ViewSentences::meanCost);
        Sentence.promise(41, "Throws `IndexOutOfBoundsException` if there is no such mode",
            () -> BookSentences.noMode("meanCostBits", (book, mode) -> book.meanCostBits(mode)));
        Sentence.promise(41, "Throws `ArithmeticException` if it has none", ViewSentences::meanOfNone);
    }

    private static void effort() {
        Check.due("of an empty book", new ShortcutBook().effort(0), 0);
        ShortcutBook book = Check.loaded("mode 0;plain;back;plain;bind 0 0 a;bind 0 1 CSAMz CSAMz CSAMz CSAMz;bind 0 0 b;bind 1 2 a;");
        Check.due("without uses", book.effort(0), 0);
        Check.type(book, "a b a CSAMz CSAMz CSAMz CSAMz");
        Check.due("each once with its cheapest", book.effort(0), 3 * 1 + 44);
        Check.due("a is shadowed", book.effort(1), 3 * 3 + 44);
        book.unbind(0);
        book.unbind(1);
        Check.due("a command that has none in mode 0", book.effort(0), 44);
        Check.due("nor in mode 1", book.effort(1), 44);
        Check.due("its uses stay", book.command(0, 2), 3);
        Check.due("many uses", muchTyped().effort(0), 44L * 2000);
    }

    private static ShortcutBook muchTyped() {
        ShortcutBook book = Check.loaded("plain;bind 0 0 CSAMz CSAMz CSAMz CSAMz;");
        Check.input(book, "type CSAMz CSAMz CSAMz CSAMz;".repeat(40));
        for (int i = 0; i < 50; i++) {
            book.play();
        }
        return book;
    }

    private static void meanCost() {
        String[] texts = {"bind 0 0 a;", "bind 0 0 a;bind 0 0 q;bind 0 0 s;", "bind 0 0 a;bind 0 0 q;bind 0 0 z;",
            "bind 0 0 CSAMz CSAMz CSAMz CSAMz;bind 0 0 CSAMz CSAMz CSAMz CSAMx;bind 0 0 a;", "bind 0 0 q;", "bind 0 0 CSAz CSAz;bind 0 0 Ca;bind 0 0 Sa;"};
        int[] sums = {1, 4, 6, 89, 2, 24};
        int[] numbers = {1, 3, 3, 3, 1, 3};
        for (int i = 0; i < texts.length; i++) {
            Check.due(texts[i], Check.loaded("plain;" + texts[i]).meanCostBits(0), Float.floatToIntBits((float) sums[i] / (float) numbers[i]));
        }
        ShortcutBook book = Check.loaded("plain;bind 0 0 CSAMz CSAMz CSAMz CSAMz;");
        int sum = 44;
        for (int i = 1; i < 80; i++) {
            book.clearDraft();
            book.draft(32 * (i % 4) + i / 4);
            book.bind(0, 0);
            sum += book.draftCost();
            Check.due(i + 1 + " bindings", book.meanCostBits(0), Float.floatToIntBits((float) sum / (float) (i + 1)));
        }
        Check.due("80 bindings", book.count(3), 80);
    }

    private static void meanOfNone() {
        Check.arithmetic("of an empty book", () -> new ShortcutBook().meanCostBits(0));
        ShortcutBook book = Check.loaded("mode 0;mode 0;plain;bind 1 0 a;");
        Check.arithmetic("one in a child does not count", () -> book.meanCostBits(0));
        Check.arithmetic("one beside does not count", () -> book.meanCostBits(2));
        Check.due("one own", book.meanCostBits(1), Float.floatToIntBits(1.0f));
        book.unbind(0);
        Check.arithmetic("it is gone", () -> book.meanCostBits(1));
    }
}
