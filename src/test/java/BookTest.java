/** Promises 8 to 26, 39, 42 to 44, 59 to 65: the draft, bindings, wishes and snapshots. */
public final class BookTest {
    private static final int CLASH = ShortcutBook.CLASH;
    private static final int REFUSED = ShortcutBook.REFUSED;
    private static final int FULL = ShortcutBook.FULL;
    private static final int NONE = ShortcutBook.NONE;

    private BookTest() {
    }

    public static void main(String[] args) {
        draft();
        draftFrom();
        modes();
        commands();
        reserved();
        bind();
        bindFull();
        force();
        move();
        unbind();
        bindingProperties();
        clashing();
        reason();
        costs();
        packed();
        common();
        leadingSwitches();
        clashPairs();
        wishes();
        leastDrop();
        digest();
        snapshots();
        Check.end();
    }

    private static void draft() {
        ShortcutBook book = new ShortcutBook();
        Check.argument("draft(-1)", () -> book.draft(-1));
        Check.argument("draft(26)", () -> book.draft(26));
        Check.argument("draft(31)", () -> book.draft(31));
        Check.argument("draft(506)", () -> book.draft(506));
        Check.argument("draft(512)", () -> book.draft(512));
        Check.argument("draft(min)", () -> book.draft(Integer.MIN_VALUE));
        Check.due("draft(0)", book.draft(0), 1);
        Check.due("draft(505)", book.draft(505), 2);
        Check.due("draft(57)", book.draft(57), 3);
        Check.due("draft(0)", book.draft(0), 4);
        Check.due("a fifth", book.draft(0), FULL);
        Check.argument("no stroke, and full", () -> book.draft(26));
        int[] due = {0, 505, 57, 0, NONE, NONE};
        for (int i = 0; i < due.length; i++) {
            Check.due("draftStroke(" + i + ")", book.draftStroke(i), due[i]);
        }
        Check.due("draftStroke(-1)", book.draftStroke(-1), NONE);
        Check.due("clearDraft()", book.clearDraft(), 4);
        Check.due("clearDraft()", book.clearDraft(), 0);
        Check.due("draftStroke(0)", book.draftStroke(0), NONE);
        Check.due("draftCost() of nothing", book.draftCost(), 0);
    }

    private static void draftFrom() {
        ShortcutBook book = Check.loaded("plain;bind 0 0 a b c;bind 0 0 d;");
        Check.index("draftFrom(-1)", () -> book.draftFrom(-1));
        Check.index("draftFrom(2)", () -> book.draftFrom(2));
        Check.due("draftFrom(0)", book.draftFrom(0), 3);
        Check.due("its stroke", book.draftStroke(2), 2);
        Check.due("draftFrom(1)", book.draftFrom(1), 1);
        Check.due("its stroke", book.draftStroke(0), 3);
        Check.due("no more strokes", book.draftStroke(1), NONE);
    }

    private static void modes() {
        ShortcutBook book = new ShortcutBook();
        Check.index("addMode(1)", () -> book.addMode(1));
        Check.index("addMode(-1)", () -> book.addMode(-1));
        for (int i = 1; i < 6; i++) {
            Check.due("addMode", book.addMode(i - 1), i);
            Check.due("parentOf", book.parentOf(i), i - 1);
        }
        Check.due("a seventh mode", book.addMode(5), FULL);
        Check.index("no mode, and full", () -> book.addMode(6));
        Check.due("modes", book.count(0), 6);
        Check.due("parentOf(0)", book.parentOf(0), NONE);
        Check.index("parentOf(6)", () -> book.parentOf(6));
        Check.index("parentOf(-1)", () -> book.parentOf(-1));
    }

    private static void commands() {
        ShortcutBook book = new ShortcutBook();
        Check.argument("addCommand(3, 0)", () -> book.addCommand(3, 0));
        Check.argument("addCommand(-1, 7)", () -> book.addCommand(-1, 7));
        Check.index("addCommand(1, 1)", () -> book.addCommand(1, 1));
        Check.index("addCommand(1, -1)", () -> book.addCommand(1, -1));
        Check.due("addCommand(0, 77)", book.addCommand(0, 77), 0);
        Check.due("addCommand(1, 0)", book.addCommand(1, 0), 1);
        Check.due("addCommand(2, -5)", book.addCommand(2, -5), 2);
        int[][] due = {{0, NONE, 0, 0, NONE}, {1, 0, 0, 0, NONE}, {2, NONE, 0, 0, NONE}};
        for (int command = 0; command < 3; command++) {
            for (int what = 0; what < 5; what++) {
                Check.due("command(" + command + ", " + what + ")", book.command(command, what), due[command][what]);
            }
        }
        Check.due("command(0, -1)", book.command(0, -1), NONE);
        Check.index("command(3, 0)", () -> book.command(3, 0));
        Check.index("command(-1, 9)", () -> book.command(-1, 9));
        for (int i = 3; i < 40; i++) {
            Check.due("addCommand", book.addCommand(0, 0), i);
        }
        Check.due("a 41st command", book.addCommand(0, 0), FULL);
        Check.argument("no kind, and full", () -> book.addCommand(3, 0));
        Check.index("no target, and full", () -> book.addCommand(1, 1));
        Check.draft(book, "a");
        book.bind(0, 39);
        Check.draft(book, "b");
        book.bind(0, 39);
        Check.due("bindings with 39", book.command(39, 3), 2);
        Check.due("bindings with 38", book.command(38, 3), 0);
        book.type(1);
        Check.due("uses of 39", book.command(39, 2), 1);
    }

    private static void reserved() {
        ShortcutBook book = Check.loaded("mode 0;plain;bind 1 0 a b;");
        Check.due("reserve of nothing", book.reserve(), REFUSED);
        Check.draft(book, "a");
        Check.due("reserve of a prefix", book.reserve(), CLASH);
        Check.draft(book, "a b c");
        Check.due("reserve of a longer one", book.reserve(), CLASH);
        Check.draft(book, "b c");
        for (int i = 0; i < 6; i++) {
            Check.due("reserve", book.reserve(), i);
        }
        Check.due("a seventh", book.reserve(), FULL);
        Check.draft(book, "a b");
        Check.due("a seventh that clashes", book.reserve(), CLASH);
        book.clearDraft();
        Check.due("a seventh of nothing", book.reserve(), REFUSED);
        Check.due("reservedStroke(5, 1)", book.reservedStroke(5, 1), 2);
        Check.due("reservedStroke(5, 2)", book.reservedStroke(5, 2), NONE);
        Check.due("reservedStroke(5, -1)", book.reservedStroke(5, -1), NONE);
        Check.index("reservedStroke(6, 0)", () -> book.reservedStroke(6, 0));
        Check.index("reservedStroke(-1, 0)", () -> book.reservedStroke(-1, 0));
    }

    private static void bind() {
        ShortcutBook book = Check.loaded("mode 0;plain;back;reserve x y;");
        Check.due("bind of nothing", book.bind(0, 0), REFUSED);
        Check.index("bind in mode 2", () -> book.bind(2, 0));
        Check.index("bind in mode -1", () -> book.bind(-1, 0));
        Check.index("bind to command 2", () -> book.bind(0, 2));
        Check.index("bind to command -1", () -> book.bind(0, -1));
        Check.draft(book, "a b");
        Check.due("bind", book.bind(0, 1), 0);
        Check.due("bind in another mode", book.bind(1, 0), 1);
        Check.due("its command", book.binding(0, 1), 1);
        Check.due("its mode", book.binding(1, 0), 1);
        Check.due("bind twice", book.bind(0, 0), CLASH);
        Check.draft(book, "a");
        Check.due("bind of a prefix", book.bind(0, 0), CLASH);
        Check.draft(book, "a b c");
        Check.due("bind of a longer one", book.bind(0, 0), CLASH);
        Check.draft(book, "x");
        Check.due("bind of a reserved prefix", book.bind(0, 0), CLASH);
        Check.draft(book, "x y z");
        Check.due("bind behind a reserved one", book.bind(0, 0), CLASH);
        Check.draft(book, "x z");
        Check.due("bind beside them", book.bind(0, 0), 2);
        Check.draft(book, "d e f g");
        Check.due("bind of four strokes", book.bind(0, 0), 3);
        Check.due("bind of the same four", book.bind(0, 0), CLASH);
        Check.draft(book, "d e f Cg");
        Check.due("bind of four others", book.bind(0, 0), 4);
        Check.due("the draft stays", book.count(10), 4);
    }

    private static ShortcutBook full() {
        ShortcutBook book = Check.loaded("mode 0;plain;");
        for (int i = 0; i < 80; i++) {
            book.clearDraft();
            book.draft(32 * (i / 26) + i % 26);
            Check.due("bind", book.bind(0, 0), i);
        }
        return book;
    }

    private static void bindFull() {
        ShortcutBook book = full();
        Check.due("an 81st that clashes", book.bind(0, 0), CLASH);
        Check.due("an 81st", book.bind(1, 0), FULL);
        book.clearDraft();
        Check.due("an 81st of nothing", book.bind(1, 0), REFUSED);
        Check.draft(book, "Mz");
        Check.due("force of an 81st", book.force(0, 0), FULL);
        Check.due("force of an 81st in mode 1", book.force(1, 0), FULL);
        Check.draft(book, "a b");
        Check.due("force in place of one", book.force(0, 0), 1);
        Check.due("bindings", book.count(3), 80);
        Check.due("the new one is the last", book.binding(79, 2), 2);
        Check.due("the others moved up", book.bindingStroke(0, 0), 1);
    }

    private static void force() {
        ShortcutBook book = Check.loaded("mode 0;plain;back;reserve x y;"
            + "bind 0 0 a b;bind 1 0 a b;bind 0 0 a c;bind 0 0 d;bind 0 0 a d e;");
        Check.due("force of nothing", book.force(0, 0), REFUSED);
        Check.index("force in mode 2", () -> book.force(2, 0));
        Check.index("force to command 2", () -> book.force(0, 2));
        Check.draft(book, "x");
        Check.due("force of a reserved one", book.force(0, 0), CLASH);
        Check.draft(book, "a");
        Check.due("force", book.force(0, 1), 3);
        Check.due("bindings", book.count(3), 3);
        Check.due("that of mode 1 stays", book.binding(0, 0), 1);
        Check.due("d stays", book.bindingStroke(1, 0), 3);
        Check.due("the new one", book.binding(2, 1), 1);
        Check.draft(book, "a b c d");
        Check.due("force of a longer one", book.force(0, 0), 1);
        Check.draft(book, "f");
        Check.due("force of a free one", book.force(1, 0), 0);
        Check.due("bindings", book.count(3), 4);
    }

    private static void move() {
        ShortcutBook book = Check.loaded("mode 0;plain;back;reserve x y;bind 0 0 a b;bind 0 1 c;bind 1 0 e;");
        Check.due("move to nothing", book.move(0), REFUSED);
        Check.index("move(3)", () -> book.move(3));
        Check.index("move(-1)", () -> book.move(-1));
        Check.draft(book, "c d");
        Check.due("move to a clash", book.move(0), CLASH);
        Check.draft(book, "x");
        Check.due("move to a reserved one", book.move(0), CLASH);
        Check.draft(book, "a");
        Check.due("move to its own prefix", book.move(0), 1);
        Check.due("its strokes", book.binding(0, 2), 1);
        Check.due("move to itself", book.move(0), 1);
        Check.draft(book, "e Cb");
        Check.due("move to one of another mode", book.move(0), 7);
        Check.due("its stroke", book.bindingStroke(0, 1), 33);
        Check.due("its command stays", book.binding(0, 1), 0);
        Check.due("its mode stays", book.binding(0, 0), 0);
        Check.due("the others stay", book.bindingStroke(1, 0), 2);
    }

    private static void unbind() {
        ShortcutBook book = Check.loaded("plain;back;bind 0 0 a;bind 0 1 b;bind 0 0 c;");
        Check.index("unbind(3)", () -> book.unbind(3));
        Check.index("unbind(-1)", () -> book.unbind(-1));
        Check.due("unbind(0)", book.unbind(0), 2);
        Check.due("the next one", book.bindingStroke(0, 0), 1);
        Check.due("its command", book.binding(0, 1), 1);
        Check.due("unbind(1)", book.unbind(1), 1);
        Check.due("unbind(0)", book.unbind(0), 0);
        Check.index("unbind(0) of nothing", () -> book.unbind(0));
    }

    private static void bindingProperties() {
        ShortcutBook book = Check.loaded("mode 0;plain;back;bind 0 0 a;bind 1 1 b CSq z;");
        int[] due = {1, 1, 3, 3 + 6 + 3, NONE};
        for (int what = 0; what < due.length; what++) {
            Check.due("binding(1, " + what + ")", book.binding(1, what), due[what]);
        }
        Check.due("binding(1, -1)", book.binding(1, -1), NONE);
        Check.index("binding(2, 0)", () -> book.binding(2, 0));
        Check.index("binding(-1, 0)", () -> book.binding(-1, 0));
        int[] strokes = {1, 32 * 3 + 16, 25, NONE, NONE};
        for (int i = 0; i < strokes.length; i++) {
            Check.due("bindingStroke(1, " + i + ")", book.bindingStroke(1, i), strokes[i]);
        }
        Check.due("bindingStroke(1, -1)", book.bindingStroke(1, -1), NONE);
        Check.index("bindingStroke(2, 0)", () -> book.bindingStroke(2, 0));
        Check.index("bindingStroke(-1, 0)", () -> book.bindingStroke(-1, 0));
    }

    private static void clashing() {
        ShortcutBook book = Check.loaded("mode 0;plain;reserve x;bind 0 0 b;bind 0 0 a b;bind 1 0 a c;bind 0 0 a c;");
        Check.due("clashing of nothing", book.clashing(0), REFUSED);
        Check.due("clashes of nothing", book.clashes(0), REFUSED);
        Check.index("clashing(2)", () -> book.clashing(2));
        Check.index("clashes(2)", () -> book.clashes(2));
        Check.index("clashing(-1)", () -> book.clashing(-1));
        Check.index("clashes(-1)", () -> book.clashes(-1));
        Check.draft(book, "a");
        Check.due("clashing(0)", book.clashing(0), 1);
        Check.due("clashes(0)", book.clashes(0), 2);
        Check.due("clashing(1)", book.clashing(1), 2);
        Check.due("clashes(1)", book.clashes(1), 1);
        Check.draft(book, "b c");
        Check.due("clashing(1): not those of the parent", book.clashing(1), NONE);
        Check.due("clashes(1)", book.clashes(1), 0);
        Check.due("clashes(0)", book.clashes(0), 1);
        Check.draft(book, "x");
        Check.due("clashing: not reserved ones", book.clashing(0), NONE);
    }

    private static void reason() {
        ShortcutBook book = Check.loaded("mode 0;plain;reserve x y;bind 0 0 a b;bind 0 0 c;bind 1 0 d;bind 0 0 x z;");
        Check.due("reason of nothing", book.reason(0), REFUSED);
        Check.index("reason(2)", () -> book.reason(2));
        Check.index("reason(-1)", () -> book.reason(-1));
        String[] drafts = {"x", "x y", "x y q", "a b", "a", "a b c", "c q", "c", "d", "q", "a c", "x q"};
        int[] due = {1, 1, 1, 2, 3, 4, 4, 2, 0, 0, 0, 0};
        for (int i = 0; i < drafts.length; i++) {
            Check.draft(book, drafts[i]);
            Check.due("reason(0) of " + drafts[i], book.reason(0), due[i]);
        }
        Check.draft(book, "d");
        Check.due("reason(1) of d", book.reason(1), 2);
        Check.draft(book, "a b");
        Check.due("reason(1) of a b", book.reason(1), 0);
    }

    private static void costs() {
        String cheap = "asdfghjkl";
        String middle = "qwertyuiop";
        for (char key = 'a'; key <= 'z'; key++) {
            ShortcutBook book = new ShortcutBook();
            int due = cheap.indexOf(key) >= 0 ? 1 : middle.indexOf(key) >= 0 ? 2 : 3;
            for (int set = 0; set < 16; set++) {
                book.clearDraft();
                book.draft(32 * set + key - 'a');
                Check.due("draftCost of " + set + key, book.draftCost(), due + 2 * Integer.bitCount(set));
            }
        }
        ShortcutBook dear = new ShortcutBook();
        Check.draft(dear, "CSAMz CSAMz CSAMz CSAMz");
        Check.due("the highest cost", dear.draftCost(), 44);
    }

    private static void packed() {
        ShortcutBook book = Check.loaded("plain;bind 0 0 CSAMz CSAMz CSAMz CSAMz;bind 0 0 b;bind 0 0 c d;");
        Check.index("packed(3, 0)", () -> book.packed(3, 0));
        Check.index("packed(-1, 9)", () -> book.packed(-1, 9));
        Check.argument("packed(0, 4)", () -> book.packed(0, 4));
        Check.argument("packed(0, -1)", () -> book.packed(0, -1));
        long number = 0;
        for (int i = 0; i < 4; i++) {
            number = 512 * number + 506;
        }
        Check.due("packed(0, 0)", book.packed(0, 0), (byte) number);
        Check.due("packed(0, 1)", book.packed(0, 1), (short) number);
        Check.due("packed(0, 2)", book.packed(0, 2), (char) number);
        Check.due("packed(0, 3)", book.packed(0, 3), (int) number);
        Check.due("packed(1, 3)", book.packed(1, 3), 2);
        Check.due("packed(2, 3)", book.packed(2, 3), 3 * 512 + 4);
    }

    private static void common() {
        ShortcutBook book = Check.loaded("mode 0;plain;bind 0 0 a b c d;bind 0 0 a b c e;bind 1 0 a b;bind 0 0 b;bind 1 0 c b c d;");
        Check.due("common(0, 1)", book.common(0, 1), 3);
        Check.due("common(1, 2)", book.common(1, 2), 2);
        Check.due("common(0, 3)", book.common(0, 3), 0);
        Check.due("common(0, 0)", book.common(0, 0), 4);
        Check.due("common(0, 4): not from the first one on", book.common(0, 4), 0);
        Check.index("common(5, 0)", () -> book.common(5, 0));
        Check.index("common(0, 5)", () -> book.common(0, 5));
        Check.index("common(-1, 0)", () -> book.common(-1, 0));
        Check.index("common(0, -1)", () -> book.common(0, -1));
    }

    private static void leadingSwitches() {
        ShortcutBook book = Check.loaded("switch 0;plain;bind 0 0 a;bind 0 0 b;bind 0 1 c;bind 0 0 d;");
        Check.due("leadingSwitches()", book.leadingSwitches(), 2);
        book.unbind(2);
        Check.due("leadingSwitches() of switches alone", book.leadingSwitches(), 3);
        Check.due("of none", new ShortcutBook().leadingSwitches(), 0);
        Check.due("of a back", Check.loaded("back;bind 0 0 a;").leadingSwitches(), 0);
    }

    private static void clashPairs() {
        ShortcutBook book = Check.loaded("mode 0;mode 1;plain;bind 0 0 a b;bind 0 0 a c;bind 1 0 a;bind 1 0 d;bind 2 0 d e;bind 0 0 d e;");
        Check.due("clashPairs(0, 1)", book.clashPairs(0, 1), 3);
        Check.due("clashPairs(1, 0)", book.clashPairs(1, 0), 3);
        Check.due("clashPairs(1, 2)", book.clashPairs(1, 2), 1);
        Check.due("clashPairs(0, 2)", book.clashPairs(0, 2), 1);
        Check.argument("clashPairs(1, 1)", () -> book.clashPairs(1, 1));
        Check.index("clashPairs(3, 3)", () -> book.clashPairs(3, 3));
        Check.index("clashPairs(0, 3)", () -> book.clashPairs(0, 3));
        Check.index("clashPairs(-1, 0)", () -> book.clashPairs(-1, 0));
    }

    private static void wishes() {
        ShortcutBook book = new ShortcutBook();
        Check.due("wish of nothing", book.wish(), REFUSED);
        Check.draft(book, "a b");
        Check.due("wish", book.wish(), 0);
        Check.draft(book, "c");
        for (int i = 1; i < 10; i++) {
            Check.due("wish", book.wish(), i);
        }
        Check.due("an eleventh", book.wish(), FULL);
        Check.due("draftWish(0)", book.draftWish(0), 2);
        Check.due("its stroke", book.draftStroke(1), 1);
        Check.due("draftWish(9)", book.draftWish(9), 1);
        Check.due("its stroke", book.draftStroke(0), 2);
        Check.index("draftWish(10)", () -> book.draftWish(10));
        Check.index("draftWish(-1)", () -> book.draftWish(-1));
        Check.due("clearWishes()", book.clearWishes(), 10);
        Check.due("clearWishes()", book.clearWishes(), 0);
        Check.index("draftWish(0)", () -> book.draftWish(0));
        Check.due("the draft stays", book.draftStroke(0), 2);
    }

    private static void wishAll(ShortcutBook book, String... all) {
        book.clearWishes();
        for (String one : all) {
            Check.draft(book, one);
            book.wish();
        }
    }

    private static void leastDrop() {
        ShortcutBook book = Check.loaded("mode 0;plain;reserve x y;bind 0 0 q;bind 1 0 w;");
        Check.due("leastDrop of nothing", book.leastDrop(0), 0);
        Check.index("leastDrop(2)", () -> book.leastDrop(2));
        Check.index("leastDrop(-1)", () -> book.leastDrop(-1));
        wishAll(book, "a", "a b", "a c");
        Check.due("the prefix is dropped", book.leastDrop(0), 1);
        wishAll(book, "a", "a b");
        Check.due("of two the lower mask", book.leastDrop(0), 1);
        wishAll(book, "a b", "a", "c", "c", "c");
        Check.due("two of three equal ones", book.leastDrop(0), 1 + 4 + 8);
        wishAll(book, "x", "q z", "w", "e");
        Check.due("reserved and bound ones in mode 0", book.leastDrop(0), 1 + 2);
        Check.due("reserved and bound ones in mode 1", book.leastDrop(1), 1 + 4);
        wishAll(book, "a", "a b", "a b c", "d e", "d", "d f", "g", "h", "i", "j");
        Check.due("chains", book.leastDrop(0), 1 + 2 + 16);
        wishAll(book, "x y", "x y", "x y", "x y", "x y", "x y", "x y", "x y", "x y", "x y");
        Check.due("all", book.leastDrop(1), 1023);
        wishAll(book, "a", "b", "c");
        Check.due("none", book.leastDrop(1), 0);
    }

    private static void digest() {
        ShortcutBook book = Check.loaded("mode 0;plain;back;bind 1 1 a Cb;bind 0 0 CSAMz CSAMz CSAMz CSAMz;");
        int due = 7;
        for (int one : new int[] {1, 1, 0, 33, 0, 0, 505, 505, 505, 505}) {
            due = 31 * due + one;
        }
        Check.due("digest()", book.digest(), due);
    }

    private static void snapshots() {
        ShortcutBook fresh = new ShortcutBook();
        Check.due("restoreSnapshot(0) of a new one", fresh.restoreSnapshot(0), false);
        Check.due("restoreSnapshot(1) of a new one", fresh.restoreSnapshot(1), false);
        Check.due("saveSnapshot(0)", fresh.saveSnapshot(0), true);
        Check.due("saveSnapshot(1)", fresh.saveSnapshot(1), true);
        for (int slot : new int[] {-1, 2, 3, Integer.MAX_VALUE, Integer.MIN_VALUE}) {
            Check.due("restoreSnapshot(" + slot + ")", fresh.restoreSnapshot(slot), false);
            Check.due("saveSnapshot(" + slot + ")", fresh.saveSnapshot(slot), false);
        }
        ShortcutBook book = Check.loaded("mode 0;plain;switch 1;reserve x;bind 0 0 a b;bind 0 1 c;layer q a b;timeout 50;");
        Check.due("saveSnapshot(-1)", book.saveSnapshot(-1), false);
        Check.due("saveSnapshot(2)", book.saveSnapshot(2), false);
        Check.due("restoreSnapshot(-1)", book.restoreSnapshot(-1), false);
        Check.due("restoreSnapshot(2)", book.restoreSnapshot(2), false);
        Check.due("restoreSnapshot(1)", book.restoreSnapshot(1), false);
        Check.type(book, "c a z a");
        book.tick(3);
        book.hold(6);
        book.press(16);
        Check.draft(book, "e");
        book.wish();
        Check.due("saveSnapshot(1)", book.saveSnapshot(1), true);
        Check.due("restoreSnapshot(0)", book.restoreSnapshot(0), false);
        int[] counts = new int[10];
        int[] typing = new int[5];
        for (int what = 0; what < 10; what++) {
            counts[what] = book.count(what);
        }
        for (int what = 0; what < 5; what++) {
            typing[what] = book.typing(what);
        }
        int digest = book.digest();
        Check.type(book, "b c");
        book.tick(60);
        book.hold(0);
        book.release(16);
        book.addMode(0);
        book.addCommand(0, 0);
        book.reserve();
        book.unbind(0);
        book.clearWishes();
        book.setTimeout(7);
        Check.draft(book, "g h");
        book.load();
        Check.due("load drops the snapshots", book.restoreSnapshot(1), false);
        book = Check.loaded("mode 0;plain;switch 1;reserve x;bind 0 0 a b;bind 0 1 c;layer q a b;timeout 50;");
        Check.type(book, "c a z a");
        book.tick(3);
        book.hold(6);
        book.press(16);
        Check.draft(book, "e");
        book.wish();
        book.saveSnapshot(0);
        book.saveSnapshot(1);
        Check.type(book, "b c");
        book.tick(60);
        book.hold(0);
        book.release(16);
        book.addMode(0);
        book.addCommand(0, 0);
        book.reserve();
        book.unbind(0);
        book.clearWishes();
        book.setTimeout(7);
        Check.draft(book, "g h");
        Check.input(book, "!");
        book.load();
        Check.input(book, "plain;");
        book.saveSnapshot(0);
        for (int turn = 0; turn < 2; turn++) {
            Check.due("restoreSnapshot(1)", book.restoreSnapshot(1), true);
            for (int what = 0; what < 10; what++) {
                Check.due("restored: count(" + what + ")", book.count(what), counts[what]);
            }
            for (int what = 0; what < 5; what++) {
                Check.due("restored: typing(" + what + ")", book.typing(what), typing[what]);
            }
            Check.due("restored: digest", book.digest(), digest);
            Check.due("restored: uses", book.command(1, 2), 1);
            Check.due("restored: holder", book.layer(0, 2), 1);
            Check.due("restored: modifiers", book.hold(0), 6);
            Check.due("the draft stays", book.count(10), 2);
            Check.due("the error stays", book.errorCode(), 1);
            Check.due("the input stays", book.truncateInput(6), 6);
            Check.type(book, "b");
            book.release(16);
        }
        Check.due("restoreSnapshot(0)", book.restoreSnapshot(0), true);
        Check.due("the other slot", book.count(3), 1);
        book.saveSnapshot(1);
        book.addMode(0);
        book.restoreSnapshot(1);
        Check.due("a later one replaces it", book.count(3), 1);
        Check.due("modes", book.count(0), 3);
    }
}
