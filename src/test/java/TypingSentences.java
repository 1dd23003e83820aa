/** Boundary cases of layers, of typing and of the time. */
final class TypingSentences {
    private static final int NONE = ShortcutBook.NONE;
    private static final int FULL = ShortcutBook.FULL;
    private static final int[] FAR = {-1, -2, Integer.MAX_VALUE, Integer.MIN_VALUE};

    private TypingSentences() {
    }

    static void all() {
        layerSentences();
        layerPromises();
        keyPromises();
        typingSentences();
        typingPromises();
        timeSentences();
        timePromises();
    }

    private static void layerSentences() {
        Sentence.told("There are at most 4 layers, numbered from 0.", TypingSentences::fourLayers);
        Sentence.told("(no two layers have the same one)", TypingSentences::ownHolders);
        Sentence.told("It is active while its holder is held.", TypingSentences::activeWhileHeld);
        Sentence.told("A key that is pressed, if it is no holder, makes a stroke", TypingSentences::holdersMakeNoStroke);
        Sentence.told("its key is that to which the active layer with the highest number that maps the pressed key maps it "
            + "(the pressed key itself, if there is none), its modifiers are those that are held.", TypingSentences::highestLayer);
    }

    private static void fourLayers() {
        Check.due("none at first", new ShortcutBook().count(1), 0);
        ShortcutBook book = Check.loaded("layer d a b;layer c a b;layer b a c;layer a z d;");
        Check.due("four", book.count(1), 4);
        int[] holders = {3, 2, 1, 0};
        for (int i = 0; i < 4; i++) {
            Check.due("holder of " + i, book.layer(i, 0), holders[i]);
        }
        Check.due("the last one maps", book.mapped(3, 25), 3);
        Check.textError("layer d;layer c;layer b;layer a;layer e;", false, 3, 32);
    }

    private static void ownHolders() {
        Check.textError("layer a;layer a;", false, 4, 8);
        Check.textError("layer a;layer b;layer c;layer a x y;", false, 4, 24);
        Check.due("each its own", Check.loaded("layer a;layer z;").layer(1, 0), 25);
    }

    private static void activeWhileHeld() {
        ShortcutBook book = Check.loaded("layer q a b;layer w a c;");
        Check.due("not at first", book.layer(0, 2), 0);
        book.press(16);
        Check.due("held", book.layer(0, 2), 1);
        Check.due("the other one is not", book.layer(1, 2), 0);
        Check.due("a is b", book.strokeOf(0), 1);
        book.press(16);
        Check.due("pressed twice", book.layer(0, 2), 1);
        book.release(16);
        Check.due("released once", book.layer(0, 2), 0);
        Check.due("a is a", book.strokeOf(0), 0);
        Check.due("released twice", book.release(16), false);
    }

    private static void holdersMakeNoStroke() {
        ShortcutBook book = Check.loaded("plain;bind 0 0 q;bind 0 0 a q;layer q a q;");
        Check.due("the holder", book.press(16), NONE);
        Check.due("no stroke", book.typing(3), 0);
        Check.due("a key that is mapped to the holder", book.press(0), 0);
        Check.due("one stroke", book.typing(3), 1);
        book.release(16);
        Check.due("release makes none", book.typing(3), 1);
        Check.due("type makes the stroke of a holder", book.type(16), 0);
        book.type(0);
        book.press(16);
        Check.due("a holder leaves what is pending", book.count(5), 1);
    }

    private static void highestLayer() {
        ShortcutBook book = Check.loaded("layer q a b b c;layer w a d;layer e x y c z;layer r a f;");
        int[] holders = {16, 22, 4, 17};
        int[] due = {1, 3, 3, 5};
        Check.due("no layer", book.strokeOf(0), 0);
        for (int i = 0; i < 4; i++) {
            book.press(holders[i]);
            Check.due("a with layers 0 to " + i, book.strokeOf(0), due[i]);
        }
        Check.due("b is mapped by layer 0 alone, and once", book.strokeOf(1), 2);
        Check.due("c is mapped by layer 2", book.strokeOf(2), 25);
        Check.due("d is mapped by none", book.strokeOf(3), 3);
        book.release(17);
        Check.due("a without layer 3", book.strokeOf(0), 3);
        book.release(22);
        Check.due("a without layers 1 and 3", book.strokeOf(0), 1);
        book.hold(15);
        Check.due("with all modifiers", book.strokeOf(0), 480 + 1);
        book.release(16);
        Check.due("layer 2 does not map it", book.strokeOf(0), 480);
        book.hold(0);
        Check.due("without modifiers", book.strokeOf(0), 0);
    }

    private static void layerPromises() {
        Sentence.promise(45, "`what`: 0 its holder, 1 the number of keys that it maps, 2 whether it is active (1 or 0)", TypingSentences::layerProperties);
        Sentence.promise(45, "NONE for any other what", TypingSentences::noLayerProperty);
        Sentence.promise(45, "Throws `IndexOutOfBoundsException` if there is no such layer", TypingSentences::noLayer);
        Sentence.promise(46, "`key`: 0 to 25", TypingSentences::mappedKeys);
        Sentence.promise(46, "NONE if it does not map it", TypingSentences::notMapped);
        Sentence.promise(46, "Throws `IndexOutOfBoundsException` if there is no such layer", TypingSentences::mappedByNone);
        Sentence.promise(46, "Throws `IllegalArgumentException` if key is out of range", TypingSentences::mappedNoKey);
    }

    private static void layerProperties() {
        ShortcutBook book = Check.loaded("layer a;layer z a b z a y y;");
        int[][] due = {{0, 0, 0}, {25, 3, 0}};
        for (int layer = 0; layer < 2; layer++) {
            for (int what = 0; what < 3; what++) {
                Check.due("layer(" + layer + ", " + what + ")", book.layer(layer, what), due[layer][what]);
            }
        }
        book.press(25);
        Check.due("active", book.layer(1, 2), 1);
        Check.due("inactive", book.layer(0, 2), 0);
    }

    private static void noLayerProperty() {
        ShortcutBook book = Check.loaded("layer a;");
        for (int what : new int[] {-1, 3, 4, Integer.MAX_VALUE, Integer.MIN_VALUE}) {
            Check.due("layer(0, " + what + ")", book.layer(0, what), NONE);
        }
    }

    private static void noLayer() {
        Check.index("of an empty book", () -> new ShortcutBook().layer(0, 0));
        ShortcutBook book = Check.loaded("layer a;layer b;");
        Check.due("layer(1, 0) of 2", book.layer(1, 0), 1);
        Check.index("layer(2, 0) of 2", () -> book.layer(2, 0));
        Check.index("layer(2, 9) of 2", () -> book.layer(2, 9));
        for (int layer : FAR) {
            Check.index("layer(" + layer + ", 0)", () -> book.layer(layer, 0));
        }
    }

    private static void mappedKeys() {
        ShortcutBook book = Check.loaded("layer q a z z a;layer w z y;");
        Check.due("mapped(0, 0)", book.mapped(0, 0), 25);
        Check.due("mapped(0, 25)", book.mapped(0, 25), 0);
        Check.due("mapped(1, 25)", book.mapped(1, 25), 24);
    }

    private static void notMapped() {
        ShortcutBook book = Check.loaded("layer q a z;layer w;");
        for (int key = 1; key < 26; key++) {
            Check.due("mapped(0, " + key + ")", book.mapped(0, key), NONE);
        }
        Check.due("by a layer that maps nothing", book.mapped(1, 0), NONE);
    }

    private static void mappedByNone() {
        Check.index("of an empty book", () -> new ShortcutBook().mapped(0, 0));
        ShortcutBook book = Check.loaded("layer q a b;layer w a c;");
        Check.due("mapped(1, 0) of 2", book.mapped(1, 0), 2);
        Check.index("mapped(2, 0) of 2", () -> book.mapped(2, 0));
        Check.index("mapped(2, 26) of 2", () -> book.mapped(2, 26));
        for (int layer : FAR) {
            Check.index("mapped(" + layer + ", 0)", () -> book.mapped(layer, 0));
        }
    }

    private static void mappedNoKey() {
        ShortcutBook book = Check.loaded("layer q a b;layer w a c;");
        Check.argument("mapped(0, 26)", () -> book.mapped(0, 26));
        for (int key : FAR) {
            Check.argument("mapped(1, " + key + ")", () -> book.mapped(1, key));
        }
    }

    private static void keyPromises() {
        Sentence.promise(47, "the set that is held from now on, 0 to 15", TypingSentences::heldSets);
        Sentence.promise(47, "Returns the previous set.", TypingSentences::previousSets);
        Sentence.promise(47, "Throws `IllegalArgumentException` if modifiers is out of range", TypingSentences::holdOutside);
        Sentence.promise(48, "`key`: 0 to 25", TypingSentences::strokesOfKeys);
        Sentence.promise(48, "NONE if it is a holder", TypingSentences::strokeOfHolder);
        Sentence.promise(48, "Throws `IllegalArgumentException` if key is out of range",
            () -> noKey("strokeOf", (book, key) -> book.strokeOf(key)));
        Sentence.promise(49, "A holder is held then, any other key makes its stroke.", TypingSentences::pressedKeys);
        Sentence.promise(49, "`key`: 0 to 25", TypingSentences::pressedEnds);
        Sentence.promise(49, "NONE if none was", TypingSentences::pressedForNothing);
        Sentence.promise(49, "Throws `IllegalArgumentException` if key is out of range",
            () -> noKey("press", (book, key) -> book.press(key)));
        Sentence.promise(50, "`key`: 0 to 25", TypingSentences::releasedEnds);
        Sentence.promise(50, "false if the key is no holder, or not held", TypingSentences::releasedForNothing);
        Sentence.promise(50, "Throws `IllegalArgumentException` if key is out of range",
            () -> noKey("release", (book, key) -> book.release(key) ? 1 : 0));
    }

    private static void noKey(String name, BookSentences.ModeCall call) {
        for (ShortcutBook book : new ShortcutBook[] {new ShortcutBook(), Check.loaded("layer a;layer z;")}) {
            for (int key : new int[] {-1, 26, 27, 32, Integer.MAX_VALUE, Integer.MIN_VALUE}) {
                Check.argument(name + "(" + key + ")", () -> call.answer(book, key));
            }
            Check.due(name + "(25) throws nothing", call.answer(book, 25) >= NONE, true);
            Check.due(name + "(0) throws nothing", call.answer(book, 0) >= NONE, true);
        }
    }

    private static void heldSets() {
        ShortcutBook book = Check.loaded("plain;bind 0 0 CSAMz;bind 0 0 z;");
        book.hold(15);
        Check.due("all", book.strokeOf(0), 480);
        Check.due("they last", book.press(25), 0);
        Check.due("they last", book.press(25), 0);
        book.hold(0);
        Check.due("none", book.strokeOf(25), 25);
        Check.due("none", book.press(25), 0);
        Check.due("two commands", book.command(0, 2), 3);
        for (int set = 0; set < 16; set++) {
            book.hold(set);
            Check.due("set " + set, book.strokeOf(3), 32 * set + 3);
        }
    }

    private static void previousSets() {
        ShortcutBook book = new ShortcutBook();
        Check.due("none at first", book.hold(15), 0);
        Check.due("all", book.hold(15), 15);
        Check.due("all again", book.hold(0), 15);
        Check.due("none again", book.hold(8), 0);
        Check.due("one", book.hold(1), 8);
    }

    private static void holdOutside() {
        ShortcutBook book = new ShortcutBook();
        book.hold(9);
        Check.argument("hold(16)", () -> book.hold(16));
        for (int set : FAR) {
            Check.argument("hold(" + set + ")", () -> book.hold(set));
        }
        Check.due("the set stays", book.hold(0), 9);
    }

    private static void strokesOfKeys() {
        ShortcutBook book = Check.loaded("layer q a z z a;");
        Check.due("strokeOf(0)", book.strokeOf(0), 0);
        Check.due("strokeOf(25)", book.strokeOf(25), 25);
        book.press(16);
        Check.due("strokeOf(0), mapped", book.strokeOf(0), 25);
        Check.due("strokeOf(25), mapped", book.strokeOf(25), 0);
        Check.due("no stroke was made", book.typing(3), 0);
    }

    private static void strokeOfHolder() {
        ShortcutBook book = Check.loaded("layer a z z;layer z a b;");
        Check.due("not held", book.strokeOf(0), NONE);
        Check.due("not held", book.strokeOf(25), NONE);
        book.press(0);
        Check.due("held", book.strokeOf(0), NONE);
        Check.due("mapped by an active layer", book.strokeOf(25), NONE);
        book.hold(3);
        Check.due("with modifiers", book.strokeOf(0), NONE);
        Check.due("no holder", book.strokeOf(1), 97);
    }

    private static void pressedKeys() {
        ShortcutBook book = Check.loaded("plain;back;bind 0 0 Cz;bind 0 1 b;layer b a z;");
        book.hold(1);
        Check.due("a makes Ca", book.press(0), NONE);
        Check.due("b is held", book.press(1), NONE);
        Check.due("it is active", book.layer(0, 2), 1);
        Check.due("a makes Cz", book.press(0), 0);
        Check.due("strokes", book.typing(3), 2);
    }

    private static void pressedEnds() {
        ShortcutBook book = Check.loaded("plain;back;bind 0 0 a;bind 0 1 z;");
        Check.due("press(0)", book.press(0), 0);
        Check.due("press(25)", book.press(25), 1);
        ShortcutBook holders = Check.loaded("layer a;layer z;");
        holders.press(25);
        Check.due("a holder", holders.layer(1, 2), 1);
        Check.due("another one", holders.layer(0, 2), 0);
        holders.press(0);
        Check.due("another one", holders.layer(0, 2), 1);
    }

    private static void pressedForNothing() {
        ShortcutBook book = Check.loaded("plain;bind 0 0 a b;layer q;");
        Check.due("a dead stroke", book.press(25), NONE);
        Check.due("a holder", book.press(16), NONE);
        Check.due("a holder that is held", book.press(16), NONE);
        Check.due("a pending stroke", book.press(0), NONE);
        Check.due("command 0", book.press(1), 0);
        Check.due("in an empty book", new ShortcutBook().press(0), NONE);
    }

    private static void releasedEnds() {
        ShortcutBook book = Check.loaded("layer a;layer z;");
        book.press(0);
        book.press(25);
        Check.due("release(25)", book.release(25), true);
        Check.due("release(0)", book.release(0), true);
        Check.due("neither is held", book.layer(0, 2) + book.layer(1, 2), 0);
    }

    private static void releasedForNothing() {
        ShortcutBook book = Check.loaded("layer q a b;layer w;");
        Check.due("no holder", book.release(0), false);
        Check.due("not held", book.release(16), false);
        book.press(16);
        Check.due("another one is held", book.release(22), false);
        Check.due("a key that is mapped", book.release(0), false);
        Check.due("held", book.release(16), true);
        Check.due("not held any more", book.release(16), false);
        Check.due("in an empty book", new ShortcutBook().release(0), false);
    }

    private static void typingSentences() {
        Sentence.told("There is a present mode (0 at first), a row of at most 8 modes to come back to (empty at first), and pending strokes "
            + "(none at first).", TypingSentences::atFirst);
        Sentence.told("When a stroke is made, it is put behind the pending strokes.", TypingSentences::behindThePending);
        Sentence.told("If a visible binding of the present mode has just this sequence, its command is done, and there are no pending strokes then.",
            TypingSentences::justThisSequence);
        Sentence.told("Otherwise, if this sequence is a proper prefix of that of a visible binding, it is pending then.", TypingSentences::pendingThen);
        Sentence.told("Otherwise it is dead: there are no pending strokes then, and if there were some before, the stroke is made again, alone.",
            TypingSentences::deadStrokes);
        Sentence.told("To do a command counts one use of it.", TypingSentences::uses);
        Sentence.told("A switch puts the present mode at the end of the row (whose first one is dropped if there are 8), and its target becomes "
            + "the present mode.", TypingSentences::eightToComeBackTo);
        Sentence.told("A back takes the last mode of the row, which becomes the present one (if the row is empty, nothing happens).",
            TypingSentences::backToNothing);
    }

    private static void atFirst() {
        ShortcutBook book = new ShortcutBook();
        Check.due("present mode", book.typing(0), 0);
        Check.due("modes to come back to", book.count(7), 0);
        Check.due("backTo(0)", book.backTo(0), NONE);
        Check.due("pending strokes", book.count(5), 0);
        Check.due("pending(0)", book.pending(0), NONE);
    }

    private static void behindThePending() {
        ShortcutBook book = Check.loaded("plain;bind 0 0 a b c d;bind 0 0 b;");
        String strokes = "abc";
        for (int i = 0; i < 3; i++) {
            Check.due("type", book.type(strokes.charAt(i) - 'a'), NONE);
            Check.due("pending strokes", book.count(5), i + 1);
            Check.due("the last one", book.pending(i), i);
        }
        Check.due("the fourth one ends it", book.type(3), 0);
        Check.due("b was not done", book.command(0, 2), 1);
    }

    private static void justThisSequence() {
        ShortcutBook book = Check.loaded("mode 0;switch 1;plain;bind 0 0 a;bind 0 1 b c d e;bind 1 1 a;");
        Check.due("one stroke", book.type(0), 0);
        Check.due("a is shadowed in the present mode", book.type(0), 1);
        Check.due("none is pending", book.count(5), 0);
        Check.type(book, "b c d");
        Check.due("four strokes", book.type(4), 1);
        Check.due("none is pending", book.count(5), 0);
        Check.due("no dead stroke", book.typing(2), 0);
    }

    private static void pendingThen() {
        ShortcutBook book = Check.loaded("mode 0;switch 1;plain;bind 0 0 a;bind 0 1 b c;bind 1 1 b;bind 1 1 d e f g;");
        Check.due("d is nothing in mode 0", book.type(3), NONE);
        Check.due("it is dead", book.count(5), 0);
        book.type(0);
        Check.due("b c is shadowed in mode 1", book.type(1), 1);
        Check.type(book, "d e f");
        Check.due("three are pending", book.count(5), 3);
        Check.due("dead ones", book.typing(2), 1);
        book.unbind(3);
        Check.due("they stay when the binding goes", book.count(5), 3);
        Check.due("till the next stroke", book.type(1), 1);
        Check.due("dead ones", book.typing(2), 2);
        Check.due("none is pending", book.count(5), 0);
    }

    private static void deadStrokes() {
        ShortcutBook book = Check.loaded("plain;bind 0 0 a b c d;bind 0 0 e;");
        Check.due("alone", book.type(25), NONE);
        Check.due("dead once", book.typing(2), 1);
        Check.due("made once", book.typing(3), 1);
        Check.type(book, "a b c");
        Check.due("e again, alone", book.type(4), 0);
        Check.due("dead", book.typing(2), 2);
        Check.due("made", book.typing(3), 6);
        Check.type(book, "a");
        Check.due("z again, alone, is dead too", book.type(25), NONE);
        Check.due("dead", book.typing(2), 4);
        Check.due("made", book.typing(3), 9);
        Check.due("none is pending", book.count(5), 0);
        Check.type(book, "a b");
        Check.due("a again, alone, is pending", book.type(0), NONE);
        Check.due("pending strokes", book.count(5), 1);
        Check.due("pending(0)", book.pending(0), 0);
        Check.due("dead", book.typing(2), 5);
        Check.due("it goes on", book.type(1), NONE);
        Check.due("pending strokes", book.count(5), 2);
        ShortcutBook empty = new ShortcutBook();
        empty.type(0);
        empty.type(0);
        Check.due("in an empty book", empty.typing(2), 2);
        Check.due("never again", empty.typing(3), 2);
    }

    private static void uses() {
        ShortcutBook book = Check.loaded("plain;back;switch 0;bind 0 0 a;bind 0 1 b;bind 0 2 c;bind 0 0 d e;");
        Check.type(book, "a b c d e d z a");
        Check.due("plain", book.command(0, 2), 3);
        Check.due("back", book.command(1, 2), 1);
        Check.due("switch", book.command(2, 2), 1);
    }

    private static void eightToComeBackTo() {
        ShortcutBook book = Check.loaded("mode 0;mode 0;mode 0;switch 1;switch 2;switch 3;switch 0;bind 0 0 a;bind 0 1 b;bind 0 2 c;bind 0 3 d;");
        Check.type(book, "a b c d a b c d");
        Check.due("eight", book.count(7), 8);
        int[] eight = {3, 2, 1, 0, 3, 2, 1, 0, NONE};
        for (int i = 0; i < eight.length; i++) {
            Check.due("backTo(" + i + ")", book.backTo(i), eight[i]);
        }
        Check.type(book, "b");
        Check.due("still eight", book.count(7), 8);
        int[] nine = {0, 3, 2, 1, 0, 3, 2, 1, NONE};
        for (int i = 0; i < nine.length; i++) {
            Check.due("after a ninth: backTo(" + i + ")", book.backTo(i), nine[i]);
        }
        Check.due("present mode", book.typing(0), 2);
        Check.type(book, "b b");
        Check.due("a switch to the present mode counts too", book.backTo(1), 2);
        Check.due("eight", book.count(7), 8);
    }

    private static void backToNothing() {
        ShortcutBook book = Check.loaded("mode 0;switch 1;back;bind 0 0 a;bind 0 1 b;");
        Check.due("the row is empty", book.type(1), 1);
        Check.due("present mode", book.typing(0), 0);
        Check.due("the row", book.count(7), 0);
        Check.due("it is done all the same", book.command(1, 2), 1);
        Check.type(book, "a a");
        Check.due("present mode", book.typing(0), 1);
        Check.type(book, "b");
        Check.due("back to the last one", book.typing(0), 1);
        Check.type(book, "b");
        Check.due("back to the first one", book.typing(0), 0);
        Check.due("the row is empty", book.count(7), 0);
        Check.type(book, "b");
        Check.due("present mode", book.typing(0), 0);
        Check.due("the latest command", book.typing(1), 1);
    }

    private static void typingPromises() {
        Sentence.promise(51, "Makes a stroke, whatever is held.", TypingSentences::typedWhateverIsHeld);
        Sentence.promise(51, "NONE if none was", TypingSentences::typedForNothing);
        Sentence.promise(51, "Throws `IllegalArgumentException` if it is no stroke", TypingSentences::typedNoStroke);
        Sentence.promise(52, "Returns how many commands were done; 0 if it is empty.", TypingSentences::typedDraft);
        Sentence.promise(55, "1 the latest command that was done (NONE at first)", TypingSentences::latestCommand);
        Sentence.promise(55, "3 strokes that were made (those made again count again)", TypingSentences::madeAgain);
        Sentence.promise(55, "4 ticks since the latest stroke (the time if there was none)", TypingSentences::sinceTheLatest);
        Sentence.promise(55, "NONE for any other what", TypingSentences::noTypingNumber);
        Sentence.promise(56, "`index`: from 0", TypingSentences::pendingFromZero);
        Sentence.promise(56, "NONE if there are not so many", TypingSentences::pendingNotSoMany);
        Sentence.promise(57, "`index`: 0 for the last one of the row", TypingSentences::backToLast);
        Sentence.promise(57, "NONE if there are not so many", TypingSentences::backToNotSoMany);
    }

    private static void typedWhateverIsHeld() {
        ShortcutBook book = Check.loaded("plain;bind 0 0 a;layer q a b;layer a;");
        book.hold(15);
        book.press(16);
        Check.due("a is no holder here", book.type(0), 0);
        Check.due("it is not held", book.layer(1, 2), 0);
        Check.due("505", book.type(505), NONE);
    }

    private static void typedForNothing() {
        ShortcutBook book = Check.loaded("plain;bind 0 0 a b;");
        Check.due("dead", book.type(25), NONE);
        Check.due("pending", book.type(0), NONE);
        Check.due("command 0", book.type(1), 0);
        book.type(0);
        Check.due("pending again", book.type(0), NONE);
        Check.due("in an empty book", new ShortcutBook().type(0), NONE);
    }

    private static void typedNoStroke() {
        ShortcutBook book = Check.loaded("plain;bind 0 0 a b;");
        book.type(0);
        for (int stroke : new int[] {-1, 26, 31, 58, 506, 511, 512, -32, Integer.MAX_VALUE, Integer.MIN_VALUE}) {
            Check.argument("type(" + stroke + ")", () -> book.type(stroke));
        }
        Check.due("no stroke was made", book.typing(3), 1);
        Check.due("a is still pending", book.count(5), 1);
    }

    private static void typedDraft() {
        ShortcutBook book = Check.loaded("plain;bind 0 0 a;bind 0 0 b c d e;");
        Check.due("of nothing", book.typeDraft(), 0);
        Check.due("no stroke was made", book.typing(3), 0);
        Check.draft(book, "a a a a");
        Check.due("four", book.typeDraft(), 4);
        Check.draft(book, "b c d e");
        Check.due("one", book.typeDraft(), 1);
        Check.draft(book, "z");
        Check.due("none", book.typeDraft(), 0);
        Check.due("strokes", book.typing(3), 9);
        Check.due("the draft stays", book.count(10), 1);
    }

    private static void latestCommand() {
        ShortcutBook book = Check.loaded("plain;back;bind 0 0 a;bind 0 1 b;");
        Check.due("at first", book.typing(1), NONE);
        book.type(25);
        Check.due("after a dead stroke", book.typing(1), NONE);
        book.type(0);
        Check.due("command 0", book.typing(1), 0);
        book.type(1);
        Check.due("command 1", book.typing(1), 1);
        book.type(25);
        Check.due("a dead stroke does none", book.typing(1), 1);
        book.load();
        Check.due("after a load", book.typing(1), NONE);
    }

    private static void madeAgain() {
        ShortcutBook book = Check.loaded("plain;bind 0 0 a b;");
        Check.due("at first", book.typing(3), 0);
        book.type(25);
        Check.due("one", book.typing(3), 1);
        book.type(0);
        Check.due("two", book.typing(3), 2);
        book.type(0);
        Check.due("the third one twice", book.typing(3), 4);
        book.type(1);
        Check.due("the fourth one", book.typing(3), 5);
    }

    private static void sinceTheLatest() {
        ShortcutBook book = Check.loaded("plain;bind 0 0 a b;");
        Check.due("at first", book.typing(4), 0);
        book.tick(1000);
        Check.due("the time", book.typing(4), 1000);
        book.type(25);
        Check.due("none since a dead one", book.typing(4), 0);
        book.tick(3);
        Check.due("three", book.typing(4), 3);
        book.type(0);
        Check.due("none since a pending one", book.typing(4), 0);
        book.tick(1);
        book.type(1);
        Check.due("none since one that did a command", book.typing(4), 0);
        ShortcutBook holder = Check.loaded("layer q;");
        holder.tick(5);
        holder.press(16);
        Check.due("a holder makes no stroke", holder.typing(4), 5);
    }

    private static void noTypingNumber() {
        ShortcutBook book = Check.loaded("plain;bind 0 0 a;");
        book.type(0);
        for (int what : new int[] {-1, 5, 6, Integer.MAX_VALUE, Integer.MIN_VALUE}) {
            Check.due("typing(" + what + ")", book.typing(what), NONE);
        }
    }

    private static void pendingFromZero() {
        ShortcutBook book = Check.loaded("plain;bind 0 0 CSAMz a b c;");
        Check.type(book, "CSAMz a b");
        Check.due("pending(0)", book.pending(0), 505);
        Check.due("pending(1)", book.pending(1), 0);
        Check.due("pending(2)", book.pending(2), 1);
    }

    private static void pendingNotSoMany() {
        Check.due("of none", new ShortcutBook().pending(0), NONE);
        ShortcutBook book = Check.loaded("plain;bind 0 0 a b c d;");
        book.type(0);
        Check.due("pending(1) of 1", book.pending(1), NONE);
        Check.type(book, "b c");
        for (int index : new int[] {3, 4, -1, -2, Integer.MAX_VALUE, Integer.MIN_VALUE}) {
            Check.due("pending(" + index + ") of 3", book.pending(index), NONE);
        }
    }

    private static void backToLast() {
        ShortcutBook book = Check.loaded("mode 0;mode 0;switch 1;switch 2;bind 0 0 a;bind 0 1 b;");
        Check.type(book, "a");
        Check.due("of one", book.backTo(0), 0);
        Check.type(book, "b");
        Check.due("of two", book.backTo(0), 1);
        Check.due("the first one", book.backTo(1), 0);
    }

    private static void backToNotSoMany() {
        Check.due("of none", new ShortcutBook().backTo(0), NONE);
        ShortcutBook book = Check.loaded("mode 0;switch 1;bind 0 0 a;");
        Check.type(book, "a a a a a a a a a");
        Check.due("the eighth", book.backTo(7), 1);
        for (int index : new int[] {8, 9, -1, -2, Integer.MAX_VALUE, Integer.MIN_VALUE, -2147483647}) {
            Check.due("backTo(" + index + ") of 8", book.backTo(index), NONE);
        }
    }

    private static void timeSentences() {
        Sentence.told("Time is counted in ticks, 0 at first.", TypingSentences::timeAtFirst);
        Sentence.told("With a timeout N greater than 0 the pending strokes are dropped", TypingSentences::noTimeout);
        Sentence.told("(and counted as dead, once)", TypingSentences::droppedOnce);
        Sentence.told("as soon as N ticks have passed since the latest stroke was made.", TypingSentences::asSoonAsPassed);
    }

    private static void timeAtFirst() {
        ShortcutBook book = new ShortcutBook();
        Check.due("at first", book.count(6), 0);
        Check.due("tick(1)", book.tick(1), 1);
        Check.due("a stroke takes no time", timeAfterStroke(book), 1);
        book.load();
        Check.due("after a load", book.count(6), 0);
    }

    private static int timeAfterStroke(ShortcutBook book) {
        book.type(0);
        return book.count(6);
    }

    private static void noTimeout() {
        ShortcutBook book = Check.loaded("plain;bind 0 0 a b;timeout 0;");
        book.type(0);
        for (int i = 0; i < 20; i++) {
            book.tick(1000);
        }
        Check.due("0 drops nothing", book.count(5), 1);
        Check.due("b ends it", book.type(1), 0);
        ShortcutBook one = Check.loaded("plain;bind 0 0 a b;timeout 1;");
        one.type(0);
        Check.due("1: at once it is pending", one.count(5), 1);
        one.tick(1);
        Check.due("1 drops after one tick", one.count(5), 0);
        Check.due("b is alone", one.type(1), NONE);
    }

    private static void droppedOnce() {
        ShortcutBook book = Check.loaded("plain;bind 0 0 a b c d;timeout 5;");
        Check.type(book, "a b c");
        book.tick(1000);
        Check.due("three strokes, once", book.typing(2), 1);
        book.tick(1000);
        Check.due("not again", book.typing(2), 1);
        Check.due("no stroke was made by it", book.typing(3), 3);
        book.setTimeout(4);
        Check.due("not again", book.typing(2), 1);
        ShortcutBook none = Check.loaded("plain;bind 0 0 a;timeout 5;");
        none.type(0);
        none.tick(1000);
        Check.due("nothing was pending", none.typing(2), 0);
    }

    private static void asSoonAsPassed() {
        ShortcutBook book = Check.loaded("plain;bind 0 0 a b c;timeout 999;");
        book.tick(500);
        book.type(0);
        book.tick(998);
        Check.due("998 ticks since a", book.count(5), 1);
        book.type(1);
        book.tick(998);
        Check.due("998 ticks since b", book.count(5), 2);
        Check.due("none was dead", book.typing(2), 0);
        book.tick(1);
        Check.due("999 ticks since b", book.count(5), 0);
        Check.due("dead", book.typing(2), 1);
        ShortcutBook more = Check.loaded("plain;bind 0 0 a b c;timeout 3;");
        more.type(0);
        more.tick(2);
        Check.due("2 ticks", more.count(5), 1);
        more.tick(2);
        Check.due("4 ticks", more.count(5), 0);
        Check.due("ticks since the latest stroke", more.typing(4), 4);
        ShortcutBook again = Check.loaded("plain;bind 0 0 a b c;timeout 3;");
        again.type(0);
        again.tick(2);
        again.type(0);
        again.tick(2);
        Check.due("2 ticks since it was made again", again.count(5), 1);
        again.tick(1);
        Check.due("3 ticks since it was made again", again.count(5), 0);
    }

    private static void timePromises() {
        Sentence.promise(54, "`ticks`: 1 to 1000", TypingSentences::ticks);
        Sentence.promise(54, "Returns the time then; FULL if it would exceed 1000000.", TypingSentences::lastTime);
        Sentence.promise(54, "Throws `IllegalArgumentException` if ticks is out of range", TypingSentences::noTicks);
        Sentence.promise(58, "pending strokes are dropped at once if so many ticks have passed", TypingSentences::droppedAtOnce);
        Sentence.promise(58, "`timeout`: 0 to 999", TypingSentences::timeoutEnds);
        Sentence.promise(58, "Returns the previous timeout.", TypingSentences::previousTimeouts);
        Sentence.promise(58, "Throws `IllegalArgumentException` if timeout is out of range", TypingSentences::noSuchTimeout);
    }

    private static void ticks() {
        ShortcutBook book = new ShortcutBook();
        Check.due("tick(1)", book.tick(1), 1);
        Check.due("tick(1000)", book.tick(1000), 1001);
        Check.due("tick(999)", book.tick(999), 2000);
    }

    /** A book whose time is between 999001 and 1000000; play() leaves the input, so it can be used again. */
    static ShortcutBook lateBook(int time) {
        ShortcutBook book = new ShortcutBook();
        Check.input(book, "tick 999;".repeat(40));
        for (int i = 0; i < 25; i++) {
            book.play();
        }
        book.tick(time - 999000);
        return book;
    }

    private static void lastTime() {
        ShortcutBook book = lateBook(999999);
        Check.due("the time", book.count(6), 999999);
        Check.due("tick(2)", book.tick(2), FULL);
        Check.due("tick(1000)", book.tick(1000), FULL);
        Check.due("the time stays", book.count(6), 999999);
        Check.due("tick(1)", book.tick(1), 1000000);
        Check.due("tick(1)", book.tick(1), FULL);
        Check.due("the time stays", book.count(6), 1000000);
        Check.argument("tick(1001)", () -> book.tick(1001));
        Check.argument("tick(0)", () -> book.tick(0));
        Check.due("in one step", lateBook(999001).tick(999), 1000000);
        Check.due("one beyond", lateBook(999001).tick(1000), FULL);
        Check.due("the last step of 1000", lateBook(1000000).count(6), 1000000);
    }

    private static void noTicks() {
        ShortcutBook book = new ShortcutBook();
        Check.argument("tick(0)", () -> book.tick(0));
        Check.argument("tick(1001)", () -> book.tick(1001));
        for (int ticks : FAR) {
            Check.argument("tick(" + ticks + ")", () -> book.tick(ticks));
        }
        Check.due("the time stays", book.count(6), 0);
    }

    private static void droppedAtOnce() {
        ShortcutBook book = Check.loaded("plain;bind 0 0 a b c;");
        book.type(0);
        book.tick(7);
        book.setTimeout(8);
        Check.due("8 have not passed", book.count(5), 1);
        book.setTimeout(0);
        Check.due("0 drops nothing", book.count(5), 1);
        book.setTimeout(7);
        Check.due("7 have passed", book.count(5), 0);
        Check.due("dead", book.typing(2), 1);
        book.type(0);
        book.setTimeout(1);
        Check.due("no tick has passed", book.count(5), 1);
        book.setTimeout(999);
        book.tick(1000);
        Check.due("999 have passed", book.count(5), 0);
        Check.due("dead", book.typing(2), 2);
        book.setTimeout(1);
        Check.due("nothing is pending", book.typing(2), 2);
        ShortcutBook much = Check.loaded("plain;bind 0 0 a b c;");
        much.type(0);
        much.tick(1000);
        much.setTimeout(999);
        Check.due("more than enough", much.count(5), 0);
    }

    private static void timeoutEnds() {
        ShortcutBook book = new ShortcutBook();
        book.setTimeout(999);
        Check.due("999", book.count(9), 999);
        book.setTimeout(0);
        Check.due("0", book.count(9), 0);
        book.setTimeout(1);
        Check.due("1", book.count(9), 1);
    }

    private static void previousTimeouts() {
        ShortcutBook book = Check.loaded("timeout 5;");
        Check.due("of the text", book.setTimeout(999), 5);
        Check.due("999", book.setTimeout(0), 999);
        Check.due("0", book.setTimeout(0), 0);
        Check.due("of a new book", new ShortcutBook().setTimeout(7), 0);
    }

    private static void noSuchTimeout() {
        ShortcutBook book = Check.loaded("timeout 5;");
        Check.argument("setTimeout(1000)", () -> book.setTimeout(1000));
        for (int timeout : FAR) {
            Check.argument("setTimeout(" + timeout + ")", () -> book.setTimeout(timeout));
        }
        Check.due("the timeout stays", book.count(9), 5);
    }
}
