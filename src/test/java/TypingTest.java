/** Promises 45 to 58: layers, typing, playing and time. */
public final class TypingTest {
    private static final int NONE = ShortcutBook.NONE;
    private static final int FULL = ShortcutBook.FULL;

    private TypingTest() {
    }

    public static void main(String[] args) {
        layers();
        holding();
        pressing();
        releasing();
        typing();
        deadStrokes();
        switching();
        backRow();
        changedWhilePending();
        typeDraft();
        ticks();
        timeouts();
        setTimeout();
        playTexts();
        playAll();
        playStops();
        playKeeps();
        Check.end();
    }

    private static final String LAYERED = "layer q a b b c c q;layer w b d;layer e a f q x;";

    private static void layers() {
        ShortcutBook book = Check.loaded(LAYERED);
        int[] holders = {16, 22, 4};
        int[] mapped = {3, 1, 2};
        for (int i = 0; i < 3; i++) {
            Check.due("holder", book.layer(i, 0), holders[i]);
            Check.due("mapped keys", book.layer(i, 1), mapped[i]);
            Check.due("active", book.layer(i, 2), 0);
            Check.due("layer(i, 3)", book.layer(i, 3), NONE);
            Check.due("layer(i, -1)", book.layer(i, -1), NONE);
        }
        Check.index("layer(3, 0)", () -> book.layer(3, 0));
        Check.index("layer(-1, 0)", () -> book.layer(-1, 0));
        Check.due("mapped(0, 2)", book.mapped(0, 2), 16);
        Check.due("mapped(1, 1)", book.mapped(1, 1), 3);
        Check.due("mapped(1, 0)", book.mapped(1, 0), NONE);
        Check.index("mapped(3, 99)", () -> book.mapped(3, 99));
        Check.index("mapped(-1, 0)", () -> book.mapped(-1, 0));
        Check.argument("mapped(0, 26)", () -> book.mapped(0, 26));
        Check.argument("mapped(0, -1)", () -> book.mapped(0, -1));
    }

    private static void holding() {
        ShortcutBook book = Check.loaded(LAYERED);
        Check.due("hold(15)", book.hold(15), 0);
        Check.argument("hold(16)", () -> book.hold(16));
        Check.argument("hold(-1)", () -> book.hold(-1));
        Check.due("hold(2)", book.hold(2), 15);
        Check.argument("strokeOf(26)", () -> book.strokeOf(26));
        Check.argument("strokeOf(-1)", () -> book.strokeOf(-1));
        Check.due("strokeOf(b)", book.strokeOf(1), 65);
        book.press(16);
        Check.due("b in layer 0", book.strokeOf(1), 66);
        book.press(22);
        Check.due("b in layers 0 and 1", book.strokeOf(1), 67);
        Check.due("a in layers 0 and 1", book.strokeOf(0), 65);
        Check.due("c is mapped to a holder", book.strokeOf(2), 80);
        Check.due("d is not mapped", book.strokeOf(3), 67);
        book.release(16);
        Check.due("b in layer 1", book.strokeOf(1), 67);
        Check.due("a in layer 1", book.strokeOf(0), 64);
        book.press(4);
        Check.due("a in layers 1 and 2", book.strokeOf(0), 69);
        Check.due("a holder that is mapped", book.strokeOf(16), NONE);
        Check.due("holders that are held", book.strokeOf(22), NONE);
    }

    private static void pressing() {
        ShortcutBook book = Check.loaded("plain;back;bind 0 0 Cb;bind 0 1 a;" + LAYERED);
        Check.argument("press(26)", () -> book.press(26));
        Check.argument("press(-1)", () -> book.press(-1));
        Check.due("press(a)", book.press(0), 1);
        Check.due("press(q)", book.press(16), NONE);
        Check.due("it is held", book.layer(0, 2), 1);
        Check.due("press(q) again", book.press(16), NONE);
        Check.due("it is held", book.layer(0, 2), 1);
        Check.due("no stroke was made by it", book.typing(3), 1);
        book.hold(1);
        Check.due("press(a) makes Cb", book.press(0), 0);
        Check.due("press(z) is dead", book.press(25), NONE);
        Check.due("strokes", book.typing(3), 3);
        Check.due("dead ones", book.typing(2), 1);
    }

    private static void releasing() {
        ShortcutBook book = Check.loaded(LAYERED);
        Check.argument("release(26)", () -> book.release(26) ? 1 : 0);
        Check.argument("release(-1)", () -> book.release(-1) ? 1 : 0);
        Check.due("release of no holder", book.release(0), false);
        Check.due("release of one not held", book.release(16), false);
        book.press(16);
        Check.due("release of one held", book.release(16), true);
        Check.due("it is not held then", book.layer(0, 2), 0);
        Check.due("release again", book.release(16), false);
    }

    private static void typing() {
        ShortcutBook book = Check.loaded("plain;back;bind 0 0 a b c;bind 0 1 d;");
        Check.argument("type(26)", () -> book.type(26));
        Check.argument("type(-1)", () -> book.type(-1));
        Check.argument("type(512)", () -> book.type(512));
        book.hold(15);
        Check.due("type(d), whatever is held", book.type(3), 1);
        Check.due("latest", book.typing(1), 1);
        Check.due("type(a)", book.type(0), NONE);
        Check.due("type(b)", book.type(1), NONE);
        Check.due("pending(0)", book.pending(0), 0);
        Check.due("pending(1)", book.pending(1), 1);
        Check.due("pending(2)", book.pending(2), NONE);
        Check.due("pending(-1)", book.pending(-1), NONE);
        Check.due("type(c)", book.type(2), 0);
        Check.due("none is pending", book.count(5), 0);
        Check.due("latest", book.typing(1), 0);
        Check.due("uses", book.command(0, 2), 1);
        Check.due("strokes", book.typing(3), 4);
        Check.due("typing(5)", book.typing(5), NONE);
        Check.due("typing(-1)", book.typing(-1), NONE);
    }

    private static void deadStrokes() {
        ShortcutBook book = Check.loaded("plain;back;bind 0 0 a b c;bind 0 1 d;");
        Check.type(book, "a b");
        Check.due("d again, alone", book.type(3), 1);
        Check.due("dead", book.typing(2), 1);
        Check.due("made", book.typing(3), 4);
        Check.due("pending", book.count(5), 0);
        Check.type(book, "a z");
        Check.due("dead twice", book.typing(2), 3);
        Check.due("made", book.typing(3), 7);
        Check.type(book, "a b a");
        Check.due("a is pending again", book.count(5), 1);
        Check.due("pending(0)", book.pending(0), 0);
        Check.due("dead", book.typing(2), 4);
        Check.due("made", book.typing(3), 11);
        book = Check.loaded("plain;");
        Check.due("dead at once", book.type(0), NONE);
        Check.due("dead once", book.typing(2), 1);
        Check.due("made once", book.typing(3), 1);
    }

    private static void switching() {
        ShortcutBook book = Check.loaded("mode 0;mode 1;switch 2;back;plain;bind 0 0 a;bind 2 1 a b;bind 1 2 c;bind 0 2 c d;");
        Check.due("switch", book.type(0), 0);
        Check.due("present mode", book.typing(0), 2);
        Check.due("backTo(0)", book.backTo(0), 0);
        Check.due("a is a prefix in mode 2", book.type(0), NONE);
        Check.due("back", book.type(1), 1);
        Check.due("present mode", book.typing(0), 0);
        Check.due("no mode to come back to", book.count(7), 0);
        book.type(0);
        Check.due("c of mode 1 is visible in 2", book.type(2), 2);
        Check.due("uses of a switch", book.command(0, 2), 2);
        book = Check.loaded("back;bind 0 0 a;");
        Check.due("a back to nothing is done", book.type(0), 0);
        Check.due("the mode stays", book.typing(0), 0);
        Check.due("it counts", book.command(0, 2), 1);
        Check.due("it is the latest", book.typing(1), 0);
    }

    private static void backRow() {
        ShortcutBook book = Check.loaded("mode 0;mode 0;switch 1;switch 2;switch 0;back;bind 0 0 a;bind 0 1 b;bind 0 2 c;bind 0 3 d;");
        Check.type(book, "a b b c a b c");
        int[] due = {2, 1, 0, 2, 2, 1, 0, NONE};
        for (int i = 0; i < due.length; i++) {
            Check.due("backTo(" + i + ")", book.backTo(i), due[i]);
        }
        Check.type(book, "b a b");
        Check.due("at most 8", book.count(7), 8);
        int[] later = {1, 2, 0, 2, 1, 0, 2, 2, NONE};
        for (int i = 0; i < later.length; i++) {
            Check.due("backTo(" + i + ")", book.backTo(i), later[i]);
        }
        Check.due("backTo(-1)", book.backTo(-1), NONE);
        Check.due("backTo(min)", book.backTo(Integer.MIN_VALUE), NONE);
        Check.due("backTo(max)", book.backTo(Integer.MAX_VALUE), NONE);
        Check.type(book, "d");
        Check.due("present mode", book.typing(0), 1);
        Check.due("backTo(0)", book.backTo(0), 2);
        Check.due("row", book.count(7), 7);
    }

    private static void changedWhilePending() {
        ShortcutBook book = Check.loaded("plain;bind 0 0 a b c d;bind 0 0 e;");
        Check.type(book, "a b c");
        book.unbind(0);
        Check.due("they stay pending", book.count(5), 3);
        Check.due("e again, alone", book.type(4), 0);
        Check.due("none is pending", book.count(5), 0);
    }

    private static void typeDraft() {
        ShortcutBook book = Check.loaded("mode 0;switch 1;plain;bind 0 0 a;bind 1 1 a b;bind 0 1 c;");
        Check.due("of nothing", book.typeDraft(), 0);
        Check.draft(book, "a a b c");
        Check.due("typeDraft()", book.typeDraft(), 3);
        Check.due("the draft stays", book.count(10), 4);
        Check.due("uses", book.command(1, 2), 2);
        Check.draft(book, "z a");
        Check.due("none", book.typeDraft(), 0);
        Check.due("a is pending", book.pending(0), 0);
    }

    private static void ticks() {
        ShortcutBook book = Check.loaded("plain;bind 0 0 a b;");
        Check.argument("tick(0)", () -> book.tick(0));
        Check.argument("tick(1001)", () -> book.tick(1001));
        Check.argument("tick(-1)", () -> book.tick(-1));
        Check.due("tick(1000)", book.tick(1000), 1000);
        Check.due("tick(1)", book.tick(1), 1001);
        Check.due("typing(4) without a stroke", book.typing(4), 1001);
        book.type(25);
        Check.due("typing(4)", book.typing(4), 0);
        book.tick(7);
        Check.due("typing(4)", book.typing(4), 7);
        Check.due("count(6)", book.count(6), 1008);
        ShortcutBook late = new ShortcutBook();
        Check.input(late, "tick 999;".repeat(40));
        for (int i = 0; i < 25; i++) {
            Check.due("play of ticks", late.play(), 40);
        }
        late.tick(999);
        Check.due("tick(2)", late.tick(2), FULL);
        Check.due("tick(1)", late.tick(1), 1000000);
        Check.due("tick(1)", late.tick(1), FULL);
        Check.due("count(6)", late.count(6), 1000000);
    }

    private static void timeouts() {
        ShortcutBook book = Check.loaded("plain;bind 0 0 a b c;bind 0 0 b;timeout 10;");
        book.type(0);
        book.tick(9);
        Check.due("still pending", book.count(5), 1);
        book.type(1);
        book.tick(9);
        Check.due("still pending", book.count(5), 2);
        book.tick(1);
        Check.due("dropped", book.count(5), 0);
        Check.due("dead once", book.typing(2), 1);
        book.tick(100);
        Check.due("dead once", book.typing(2), 1);
        Check.due("b is alone", book.type(1), 0);
        ShortcutBook none = Check.loaded("plain;bind 0 0 a b c;");
        none.type(0);
        none.tick(1000);
        Check.due("no timeout", none.count(5), 1);
    }

    private static void setTimeout() {
        ShortcutBook book = Check.loaded("plain;bind 0 0 a b c;");
        Check.argument("setTimeout(-1)", () -> book.setTimeout(-1));
        Check.argument("setTimeout(1000)", () -> book.setTimeout(1000));
        Check.due("setTimeout(999)", book.setTimeout(999), 0);
        book.type(0);
        book.tick(5);
        Check.due("setTimeout(6)", book.setTimeout(6), 999);
        Check.due("still pending", book.count(5), 1);
        Check.due("setTimeout(0)", book.setTimeout(0), 6);
        Check.due("still pending", book.count(5), 1);
        Check.due("setTimeout(5)", book.setTimeout(5), 0);
        Check.due("dropped at once", book.count(5), 0);
        Check.due("dead once", book.typing(2), 1);
        Check.due("setTimeout(1)", book.setTimeout(1), 5);
        Check.due("dead once", book.typing(2), 1);
        book.type(0);
        book.tick(1);
        Check.due("one tick is enough", book.count(5), 0);
        Check.due("dead twice", book.typing(2), 2);
    }

    private static void playTexts() {
        Check.textError("press", true, 1, 5);
        Check.textError("press Ca;", true, 1, 6);
        Check.textError("press a", true, 1, 7);
        Check.textError("Press a;", true, 1, 0);
        Check.textError("hold x;", true, 1, 5);
        Check.textError("hold 1000;", true, 1, 5);
        Check.textError("tick;", true, 1, 4);
        Check.textError("tick 1 2;", true, 1, 7);
        Check.textError("type;", true, 1, 4);
        Check.textError("type a b c d e;", true, 3, 13);
        Check.textError("bind 0 0;", true, 1, 8);
        Check.textError("bind 0 a;", true, 1, 7);
        Check.textError("force 0 0 a b c d Se", true, 3, 18);
        Check.textError("move 0;", true, 1, 0);
        Check.textError("plain;", true, 1, 0);
        Check.textError("hold 1;;", true, 1, 7);
        Check.textError("hold 1;\t", true, 1, 7);
        Check.textError("hold 1;".repeat(40) + "hold", true, 3, 280);
        Check.textError("hold 1;".repeat(40) + "move", true, 1, 280);
        Check.textError("hold 1;".repeat(40) + "5", true, 1, 280);
        ShortcutBook book = new ShortcutBook();
        Check.due("play of nothing", book.play(), 0);
        Check.due("errorCode", book.errorCode(), 0);
        Check.due("40 commands", Check.play(book, "hold 1;".repeat(40)), 40);
        Check.due("an error", Check.play(book, "hold 9; hold"), -3);
        Check.due("nothing was done", book.hold(0), 1);
        Check.due("errorCode", book.errorCode(), 1);
        Check.due("errorPosition", book.errorPosition(), 12);
        Check.due("no error", Check.play(book, " "), 0);
        Check.due("errorCode", book.errorCode(), 0);
        Check.due("errorPosition", book.errorPosition(), -1);
    }

    private static void playAll() {
        ShortcutBook book = Check.loaded("plain;back;bind 0 0 a b;bind 0 1 c;layer q x y;");
        Check.draft(book, "z");
        Check.due("play", Check.play(book, "type a b c; press q; hold 1; press x; release q; tick 5;"
            + "bind 0 1 Cy d; type Cy d; force 0 0 a; unbind 0; hold 15;"), 11);
        Check.due("uses of 0", book.command(0, 2), 1);
        Check.due("uses of 1", book.command(1, 2), 2);
        Check.due("Cy was dead before", book.typing(2), 1);
        Check.due("time", book.count(6), 5);
        Check.due("released", book.layer(0, 2), 0);
        Check.due("held", book.hold(0), 15);
        Check.due("bindings", book.count(3), 2);
        Check.due("the forced one", book.bindingStroke(1, 0), 0);
        Check.due("the draft stays", book.draftStroke(0), 25);
        Check.due("the draft stays", book.count(10), 1);
    }

    private static void playStops() {
        ShortcutBook first = Check.loaded("plain;");
        Check.due("the first binding", Check.play(first, "bind 0 0 a;force 0 0 b;tick 1;"), 3);
        String[] impossible = {"release a", "release q", "hold 16", "tick 0", "unbind 2", "bind 1 0 e", "bind 0 2 e",
            "bind 0 0 a", "bind 0 0 x y", "force 1 0 e", "force 0 2 e", "force 0 0 x", "unbind 999", "bind 999 999 e"};
        for (String one : impossible) {
            ShortcutBook book = Check.loaded("plain;back;reserve x;bind 0 0 a b;bind 0 1 c;layer q;");
            int digest = book.digest();
            Check.due(one, Check.play(book, "tick 3;" + one + ";tick 4;"), 1);
            Check.due(one + ": the time", book.count(6), 3);
            Check.due(one + ": the bindings", book.digest(), digest);
            Check.due(one + ": no error", book.errorCode(), 0);
        }
        ShortcutBook late = new ShortcutBook();
        late.tick(200);
        Check.input(late, "tick 999;".repeat(40));
        for (int i = 0; i < 25; i++) {
            late.play();
        }
        Check.due("ticks beyond the end", late.play(), 0);
        Check.due("fewer ticks", Check.play(late, "tick 799;tick 1;tick 1;tick 1;"), 2);
        Check.due("the time stays", late.count(6), 1000000);
        ShortcutBook full = Check.loaded("mode 0;plain;");
        for (int i = 0; i < 80; i++) {
            full.clearDraft();
            full.draft(32 * (i / 26) + i % 26);
            full.bind(0, 0);
        }
        Check.due("an 81st", Check.play(full, "bind 0 0 Mz;"), 0);
        Check.due("a forced 81st", Check.play(full, "force 0 0 Mz;"), 0);
        Check.due("one in place of another", Check.play(full, "force 0 0 a b;"), 1);
    }

    /** The document says of load() alone that it empties the buffer. */
    private static void playKeeps() {
        ShortcutBook book = new ShortcutBook();
        Check.due("play", Check.play(book, "tick 1;"), 1);
        Check.due("play again", book.play(), 1);
        Check.due("the time", book.count(6), 2);
        Check.due("the buffer", book.truncateInput(7), 7);
    }
}
