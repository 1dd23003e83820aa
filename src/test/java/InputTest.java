/** Promises 1 to 7 and the rules of INPUT and ERRORS. */
public final class InputTest {
    private InputTest() {
    }

    public static void main(String[] args) {
        newObject();
        buffer();
        load();
        loadReplaces();
        loadTwice();
        blanksAndCase();
        syntax();
        range();
        limits();
        clashes();
        missingModes();
        counts();
        Check.end();
    }

    private static void newObject() {
        ShortcutBook book = new ShortcutBook();
        int[] due = {1, 0, 0, 0, 0, 0, 0, 0, 0, 0, 0};
        for (int what = 0; what < due.length; what++) {
            Check.due("new: count(" + what + ")", book.count(what), due[what]);
        }
        Check.due("new: parentOf(0)", book.parentOf(0), -1);
        Check.due("new: errorCode", book.errorCode(), 0);
        Check.due("new: errorPosition", book.errorPosition(), -1);
        Check.due("new: digest", book.digest(), 7);
        Check.due("new: typing(0)", book.typing(0), 0);
        Check.due("new: typing(1)", book.typing(1), -1);
        Check.due("new: hold", book.hold(0), 0);
        Check.due("new: setTimeout", book.setTimeout(0), 0);
    }

    private static void buffer() {
        ShortcutBook book = new ShortcutBook();
        Check.due("truncateInput(-1)", book.truncateInput(-1), -1);
        Check.due("truncateInput(1) of nothing", book.truncateInput(1), -1);
        for (int i = 1; i <= 80; i++) {
            Check.due("appendInput", book.appendInput(0x20202020, 0x20202020, 0x20202020, 0x20202020, 0x20202020), 20 * i);
        }
        Check.due("appendInput beyond 1600", book.appendInput(0, 0, 0, 0, 0), -1);
        Check.due("truncateInput(1601)", book.truncateInput(1601), -1);
        Check.due("truncateInput(1600)", book.truncateInput(1600), 1600);
        Check.due("truncateInput(1581)", book.truncateInput(1581), 1581);
        Check.due("appendInput to 1601", book.appendInput(0, 0, 0, 0, 0), -1);
        Check.due("nothing was appended", book.truncateInput(1582), -1);
        Check.due("truncateInput(1580)", book.truncateInput(1580), 1580);
        Check.due("appendInput to 1600", book.appendInput(0x20202020, 0, 0, 0, 0x3b), 1600);
        Check.due("load of blanks and a byte 0", book.load(), -3);
        Check.due("its code", book.errorCode(), 1);
        Check.due("its position", book.errorPosition(), 1584);
        Check.due("the buffer is empty then", book.truncateInput(1), -1);
        // "plai" "n;bi" "..": most significant byte first
        book.appendInput(0x706c6169, 0x6e3b2020, 0x20202020, 0x20202020, 0x20202020);
        Check.due("load of plain;", book.load(), 0);
        Check.due("one command", book.count(2), 1);
        book.appendInput(0xff202020, 0x20202020, 0x20202020, 0x20202020, 0x20202020);
        Check.due("load of a byte 255", book.load(), -3);
        Check.due("its position", book.errorPosition(), 0);
    }

    private static void load() {
        ShortcutBook book = Check.loaded("mode 0; mode 1; plain; switch 2; back; reserve Cq x; "
            + "bind 2 1 a b c d; bind 0 0 CSAMz; layer q a b b a; timeout 7; timeout 9;");
        Check.due("bindings", book.count(3), 2);
        Check.due("modes", book.count(0), 3);
        Check.due("parentOf(1)", book.parentOf(1), 0);
        Check.due("parentOf(2)", book.parentOf(2), 1);
        Check.due("kind of 0", book.command(0, 0), 0);
        Check.due("kind of 1", book.command(1, 0), 1);
        Check.due("kind of 2", book.command(2, 0), 2);
        Check.due("target of 1", book.command(1, 1), 2);
        Check.due("reserved stroke", book.reservedStroke(0, 0), 48);
        Check.due("reserved stroke", book.reservedStroke(0, 1), 23);
        Check.due("strokes", book.binding(0, 2), 4);
        Check.due("stroke", book.bindingStroke(1, 0), 32 * 15 + 25);
        Check.due("layers", book.count(1), 1);
        Check.due("mapped", book.mapped(0, 1), 0);
        Check.due("the last timeout counts", book.count(9), 9);
        Check.due("load of nothing", book.load(), 0);
        Check.due("modes then", book.count(0), 1);
        Check.due("timeout then", book.count(9), 0);
        book = Check.loaded("layer q;");
        Check.due("a layer that maps nothing", book.layer(0, 1), 0);
        book = Check.loaded("switch 1; mode 0;");
        Check.due("a mode that comes later", book.command(0, 1), 1);
        book = Check.loaded("reserve a; reserve a; reserve a b;");
        Check.due("reserved sequences may clash", book.count(4), 3);
    }

    private static void loadReplaces() {
        ShortcutBook book = Check.loaded("mode 0; plain; switch 1; bind 0 0 a b; bind 0 1 c; layer q a b; timeout 5;");
        Check.draft(book, "z");
        book.wish();
        book.saveSnapshot(0);
        book.saveSnapshot(1);
        book.hold(3);
        book.press(16);
        book.hold(0);
        book.type(2);
        book.type(25);
        book.type(0);
        book.tick(3);
        book.hold(5);
        Check.input(book, "bind 0 0 a;");
        Check.due("a load with an error", book.load(), -3);
        Check.due("the mode stays", book.typing(0), 1);
        Check.due("bindings stay", book.count(3), 2);
        Check.due("the time stays", book.count(6), 3);
        Check.due("wishes stay", book.count(8), 1);
        Check.due("snapshots stay", book.saveSnapshot(0), true);
        Check.due("the holder stays held", book.layer(0, 2), 1);
        Check.due("errorCode", book.errorCode(), 2);
        Check.input(book, "layer q a b; plain;");
        Check.due("a load without errors", book.load(), 0);
        int[] due = {1, 1, 1, 0, 0, 0, 0, 0, 0, 0, 1};
        for (int what = 0; what < due.length; what++) {
            Check.due("replaced: count(" + what + ")", book.count(what), due[what]);
        }
        int[] typing = {0, -1, 0, 0, 0};
        for (int what = 0; what < typing.length; what++) {
            Check.due("replaced: typing(" + what + ")", book.typing(what), typing[what]);
        }
        Check.due("no snapshot 0", book.restoreSnapshot(0), false);
        Check.due("no snapshot 1", book.restoreSnapshot(1), false);
        Check.due("no modifier is held", book.hold(0), 0);
        Check.due("no holder is held", book.layer(0, 2), 0);
        Check.due("no uses", book.command(0, 2), 0);
        Check.due("errorCode", book.errorCode(), 0);
        Check.due("errorPosition", book.errorPosition(), -1);
        Check.due("the draft stays", book.draftStroke(0), 25);
    }

    /** Nothing of one text is left in the next one. */
    private static void loadTwice() {
        ShortcutBook book = Check.loaded("mode 0;plain;switch 1;reserve x;bind 0 0 a;bind 0 1 b;layer q a b;timeout 5;");
        Check.input(book, "mode 0;back;plain;plain;reserve y z;bind 1 2 c d;bind 0 0 e f;layer w c d e f;");
        Check.due("load", book.load(), 2);
        Check.due("reserved", book.count(4), 1);
        Check.due("reserved stroke", book.reservedStroke(0, 1), 25);
        Check.due("command of 0", book.binding(0, 1), 2);
        Check.due("mode of 0", book.binding(0, 0), 1);
        Check.due("strokes of 1", book.binding(1, 2), 2);
        Check.due("kind", book.command(0, 0), 2);
        Check.due("target", book.command(1, 1), -1);
        Check.due("bindings with 0", book.command(0, 3), 1);
        Check.due("holder", book.layer(0, 0), 22);
        Check.due("mapped", book.mapped(0, 0), -1);
        Check.due("mapped", book.mapped(0, 2), 3);
        Check.due("mapped keys", book.layer(0, 1), 2);
        Check.due("timeout", book.count(9), 0);
        Check.input(book, "plain;bind 0 0 a;bind 0 0 b;bind 0 0 c;");
        Check.due("load", book.load(), 3);
        Check.due("layers", book.count(1), 0);
    }

    private static void blanksAndCase() {
        ShortcutBook book = Check.loaded("  plain\n;bind0 000a\nMSb ; ");
        Check.due("tokens without blanks between", book.count(3), 1);
        Check.due("a stroke", book.bindingStroke(0, 0), 0);
        Check.due("modifiers in any order", book.bindingStroke(0, 1), 32 * 10 + 1);
        Check.textError("Plain;", false, 1, 0);
        Check.textError("plainZ;", false, 1, 0);
        Check.textError("zplain;", false, 1, 0);
        Check.textError("plain\t;", false, 1, 5);
        Check.textError("plain\r;", false, 1, 5);
    }

    private static void syntax() {
        Check.textError(";", false, 1, 0);
        Check.textError("7;", false, 1, 0);
        Check.textError(" press a;", false, 1, 1);
        Check.textError("plain", false, 1, 5);
        Check.textError("plain  ", false, 1, 7);
        Check.textError("plain 0;", false, 1, 6);
        Check.textError("mode;", false, 1, 4);
        Check.textError("mode a;", false, 1, 5);
        Check.textError("mode 0000;", false, 1, 5);
        Check.textError("switch 1000;", false, 1, 7);
        Check.textError("plain; reserved a;", false, 1, 7);
        Check.textError("reservedd a;", false, 1, 0);
        Check.textError("plain; reserve;", false, 1, 14);
        Check.textError("reserve CCa;", false, 1, 8);
        Check.textError("reserve Xa;", false, 1, 8);
        Check.textError("reserve aC;", false, 1, 8);
        Check.textError("reserve ab;", false, 1, 8);
        Check.textError("reserve A;", false, 1, 8);
        Check.textError("reserve CSAMCa;", false, 1, 8);
        Check.textError("reserve a 1;", false, 1, 10);
        Check.textError("reserve a b c d 1;", false, 1, 16);
        Check.textError("reserve a b c d Xa;", false, 1, 16);
        Check.textError("reserve a b c d", false, 1, 15);
        Check.textError("plain; bind 0 0;", false, 1, 15);
        Check.textError("plain; bind 0 a;", false, 1, 14);
        Check.textError("layer;", false, 1, 5);
        Check.textError("layer Ca;", false, 1, 6);
        Check.textError("layer a b;", false, 1, 9);
        Check.textError("layer a b cc;", false, 1, 10);
        Check.textError("layer a A b;", false, 1, 8);
        Check.textError("layer a b c", false, 1, 11);
        Check.textError("timeout;", false, 1, 7);
        Check.textError("timeout 1000;", false, 1, 8);
        Check.textError("timeout 5 5;", false, 1, 10);
        Check.textError("plain; !", false, 1, 7);
        Check.textError("plain,", false, 1, 5);
    }

    private static void range() {
        Check.textError("mode 1;", false, 2, 5);
        Check.textError("mode 0; mode 2;", false, 2, 13);
        Check.textError("switch 6;", false, 2, 7);
        Check.textError("switch 6", false, 2, 7);
        Check.textError("plain; bind 1 0 a;", false, 2, 12);
        Check.textError("plain; bind 0 1 a;", false, 2, 14);
        Check.textError("plain; bind 0 1", false, 2, 14);
        Check.due("timeout 999", Check.loaded("timeout 999;").count(9), 999);
    }

    private static void limits() {
        String modes = "mode 0;mode 0;mode 0;mode 0;mode 0;";
        Check.due("six modes", Check.loaded(modes).count(0), 6);
        Check.textError(modes + "mode", false, 3, modes.length());
        String commands = "back;".repeat(20) + "plain;".repeat(20);
        Check.due("40 commands", Check.loaded(commands).count(2), 40);
        Check.textError(commands + "plain;", false, 3, commands.length());
        Check.textError(commands + "switch;", false, 3, commands.length());
        Check.textError(commands + "back 5;", false, 3, commands.length());
        String reserved = "reserve a;".repeat(6);
        Check.due("six reserved", Check.loaded(reserved).count(4), 6);
        Check.textError(reserved + "reserve 5;", false, 3, reserved.length());
        String layers = "layer a;layer b;layer c;layer d;";
        Check.due("four layers", Check.loaded(layers).count(1), 4);
        Check.textError(layers + "layer a;", false, 3, layers.length());
        StringBuilder bindings = new StringBuilder("plain;");
        for (int i = 0; i < 80; i++) {
            bindings.append("bind 0 0 ").append(i < 26 ? "" : i < 52 ? "C" : i < 78 ? "S" : "M")
                .append((char) ('a' + i % 26)).append(';');
        }
        Check.due("80 bindings", Check.loaded(bindings.toString()).count(3), 80);
        Check.textError(bindings + "bind 9;", false, 3, bindings.length());
        Check.textError("reserve a b c d e;", false, 3, 16);
        Check.textError("reserve a b c d e 5 !", false, 3, 16);
        Check.textError("plain; bind 0 0 a b c d Ce", false, 3, 24);
    }

    private static void clashes() {
        Check.textError("plain; reserve a b; bind 0 0 a;", false, 4, 20);
        Check.textError("plain; reserve a b; bind 0 0 a b;", false, 4, 20);
        Check.textError("plain; reserve a; bind 0 0 a b;", false, 4, 18);
        Check.textError("plain; bind 0 0 a; bind 0 0 a b;", false, 4, 19);
        Check.textError("plain; bind 0 0 a; reserve a b;", false, 4, 19);
        Check.textError("plain; bind 0 0 a; bind 0 0 a b", false, 1, 31);
        Check.textError("plain; bind 0 0 a; bind 0 0 a 5;", false, 1, 30);
        Check.textError("plain; bind 0 0 a; bind 0 0 a b; !", false, 4, 19);
        Check.textError("plain; bind 0 0 a; bind 0 0 a b; mode 9", false, 4, 19);
        Check.textError("layer q; layer q a b;", false, 4, 9);
        Check.textError("layer q a b c d a e;", false, 4, 0);
        Check.textError("layer q a b a b", false, 1, 15);
        Check.due("another mode", Check.loaded("mode 0;plain;bind 0 0 a;bind 1 0 a;").count(3), 2);
        Check.due("two keys to one", Check.loaded("layer q a b c b;").layer(0, 1), 2);
        Check.due("its own holder", Check.loaded("layer q q b;").mapped(0, 16), 1);
    }

    private static void missingModes() {
        Check.textError("switch 1; ", false, 5, 10);
        Check.textError("switch 1;mode 0;switch 5;", false, 5, 25);
        Check.textError("switch 1;plain", false, 1, 14);
        Check.due("switch 0", Check.loaded("switch 0;").command(0, 1), 0);
    }

    private static void counts() {
        ShortcutBook book = Check.loaded("mode 0;switch 1;plain;bind 0 0 a;bind 1 1 b c;reserve x;layer q;timeout 9;");
        book.type(0);
        book.tick(4);
        book.type(1);
        Check.draft(book, "a b c");
        book.wish();
        book.wish();
        int[] due = {2, 1, 2, 2, 1, 1, 4, 1, 2, 9, 3};
        for (int what = 0; what < due.length; what++) {
            Check.due("count(" + what + ")", book.count(what), due[what]);
        }
        Check.due("count(11)", book.count(11), -1);
        Check.due("count(-1)", book.count(-1), -1);
    }
}
