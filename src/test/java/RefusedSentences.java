import java.util.function.Consumer;
import java.util.function.ToLongFunction;

/** Calls that are refused, in a book that has something of everything: they change nothing. */
final class RefusedSentences {
    private static final int NONE = ShortcutBook.NONE;
    private static final int FULL = ShortcutBook.FULL;
    private static final int REFUSED = ShortcutBook.REFUSED;
    private static final int CLASH = ShortcutBook.CLASH;
    private static final String INDEX = "IndexOutOfBoundsException";
    private static final String ARGUMENT = "IllegalArgumentException";
    private static final String ARITHMETIC = "ArithmeticException";
    private static final int[] OUTSIDE = {-1, Integer.MAX_VALUE, Integer.MIN_VALUE};

    private RefusedSentences() {
    }

    static void all() {
        Sentence.told("Exceptions are checked in the order in which a method lists them.", RefusedSentences::orderOfExceptions);
        Sentence.told("A call that throws an exception", RefusedSentences::thrownCalls);
        Sentence.told("or returns false or an error code, changes nothing, except where its description says so.",
            RefusedSentences::refusedCalls);
        Sentence.told("Methods that need a sequence return REFUSED if the draft is empty, unless another result is described.",
            RefusedSentences::emptyDraft);
    }

    /** Two snapshot slots, one of them used; an error; strokes pending; text in the buffer. */
    static ShortcutBook full() {
        ShortcutBook book = Check.loaded("mode 0;mode 1;plain;switch 1;back;reserve x y;bind 0 0 a b c;bind 0 1 c;bind 1 0 a d;"
            + "bind 1 2 e;bind 2 0 a b;layer q a b c d;layer w b c;timeout 50;");
        Check.draft(book, "s");
        book.wish();
        Check.draft(book, "s d");
        book.wish();
        Check.type(book, "c z");
        book.tick(3);
        book.hold(5);
        book.press(16);
        book.saveSnapshot(0);
        book.tick(7);
        book.type(0);
        book.tick(4);
        Check.draft(book, "f g");
        Check.input(book, "mode 9;");
        book.load();
        Check.input(book, "plain;reserve z");
        return book;
    }

    /** All that can be asked, also what can be asked only once. */
    static String state(ShortcutBook book) {
        StringBuilder told = new StringBuilder();
        told.append("error ").append(book.errorCode()).append(' ').append(book.errorPosition()).append(';');
        tellDraft(book, told.append(" draft"));
        tellBook(book, told);
        for (int slot = 0; slot < 2; slot++) {
            told.append("\nslot ").append(slot).append(' ').append(book.restoreSnapshot(slot));
            tellTyping(book, told.append(" digest ").append(book.digest()));
        }
        // The answer is the length; that of a buffer which has no room for it is told by the load.
        told.append("\ninput ").append(book.appendInput(0x20202020, 0x20202020, 0x20202020, 0x20202020, 0x20202020));
        told.append("\nload ").append(book.load()).append(' ').append(book.errorCode()).append(' ').append(book.errorPosition());
        return told.toString();
    }

    private static void tellDraft(ShortcutBook book, StringBuilder told) {
        for (int i = 0; i < 4; i++) {
            told.append(' ').append(book.draftStroke(i));
        }
    }

    private static void tellTyping(ShortcutBook book, StringBuilder told) {
        told.append(" counts");
        for (int what = 0; what < 10; what++) {
            told.append(' ').append(book.count(what));
        }
        told.append(" typing");
        for (int what = 0; what < 5; what++) {
            told.append(' ').append(book.typing(what));
        }
        for (int i = 0; i < 3; i++) {
            told.append(' ').append(book.pending(i)).append(' ').append(book.backTo(i));
        }
        told.append(" held ").append(book.hold(0));
    }

    private static void tellBook(ShortcutBook book, StringBuilder told) {
        tellTyping(book, told.append(" digest ").append(book.digest()));
        for (int i = 0; i < book.count(0); i++) {
            told.append(" mode ").append(book.parentOf(i)).append(' ').append(book.visible(i));
        }
        for (int i = 0; i < book.count(2) && i < 6; i++) {
            told.append(" command ").append(book.command(i, 0)).append(book.command(i, 1)).append(book.command(i, 2));
        }
        for (int i = 0; i < book.count(4); i++) {
            told.append(" reserved ").append(book.reservedStroke(i, 0)).append(' ').append(book.reservedStroke(i, 1));
        }
        for (int i = 0; i < book.count(1); i++) {
            told.append(" layer ").append(book.layer(i, 0)).append(book.layer(i, 1)).append(book.layer(i, 2));
            for (int key = 0; key < 4; key++) {
                told.append(' ').append(book.mapped(i, key));
            }
        }
        for (int i = 0; i < book.count(8); i++) {
            book.draftWish(i);
            tellDraft(book, told.append(" wish"));
        }
    }

    private static String answerOf(ShortcutBook book, ToLongFunction<ShortcutBook> call) {
        try {
            return String.valueOf(call.applyAsLong(book));
        } catch (RuntimeException e) {
            return e.getClass().getSimpleName();
        }
    }

    private static void unchanged(String name, Consumer<ShortcutBook> before, ToLongFunction<ShortcutBook> call, String due) {
        ShortcutBook book = full();
        ShortcutBook same = full();
        before.accept(book);
        before.accept(same);
        String answer = answerOf(book, call);
        Check.due(name + " answers " + due + ", not " + answer, answer.equals(due), true);
        Check.due(name + " changes nothing", state(book).equals(state(same)), true);
    }

    private static void throwing(String name, ToLongFunction<ShortcutBook> call, String due) {
        unchanged(name, book -> { }, call, due);
    }

    private static void refusing(String name, Consumer<ShortcutBook> before, ToLongFunction<ShortcutBook> call, int due) {
        unchanged(name, before, call, String.valueOf(due));
    }

    private static void orderOfExceptions() {
        for (int outside : OUTSIDE) {
            throwing("addCommand, kind first", book -> book.addCommand(outside, outside), ARGUMENT);
            throwing("addCommand of a switch", book -> book.addCommand(1, outside), INDEX);
            throwing("clashPairs of one mode that there is not", book -> book.clashPairs(outside, outside), INDEX);
            throwing("clashPairs with a mode that there is not", book -> book.clashPairs(0, outside), INDEX);
            throwing("clashPairs of one mode", book -> book.clashPairs(2, 2), ARGUMENT);
            throwing("cheapest, mode first", book -> book.cheapest(outside, outside, true), INDEX);
            throwing("cheapest of a wrong length", book -> book.cheapest(0, outside, true), ARGUMENT);
            throwing("meanCostBits, mode first", book -> book.meanCostBits(outside), INDEX);
            throwing("packed, binding first", book -> book.packed(outside, outside), INDEX);
            throwing("packed of a wrong kind", book -> book.packed(0, outside), ARGUMENT);
            throwing("mapped, layer first", book -> book.mapped(outside, outside), INDEX);
            throwing("mapped of a wrong key", book -> book.mapped(0, outside), ARGUMENT);
        }
        Check.arithmetic("meanCostBits of a mode without any", () -> new ShortcutBook().meanCostBits(0));
        Check.index("meanCostBits of no mode", () -> new ShortcutBook().meanCostBits(1));
    }

    private static void thrownCalls() {
        for (int number : new int[] {-1, 3, 5, 1000, Integer.MAX_VALUE, Integer.MIN_VALUE}) {
            throwing("addMode", book -> book.addMode(number), INDEX);
            throwing("addCommand", book -> book.addCommand(number, 0), ARGUMENT);
            throwing("addCommand", book -> book.addCommand(1, number), INDEX);
            throwing("bind in no mode", book -> book.bind(number, 0), INDEX);
            throwing("bind to no command", book -> book.bind(0, number), INDEX);
            throwing("force in no mode", book -> book.force(number, 0), INDEX);
            throwing("force to no command", book -> book.force(0, number), INDEX);
            throwing("cheapest", book -> book.cheapest(number, 1, false), INDEX);
            throwing("cheapest", book -> book.cheapest(0, number, false), ARGUMENT);
        }
        for (int number : new int[] {-1, 5, 80, Integer.MAX_VALUE, Integer.MIN_VALUE}) {
            throwing("draftFrom", book -> book.draftFrom(number), INDEX);
            throwing("draftWish", book -> book.draftWish(number == 5 ? 2 : number), INDEX);
            throwing("move", book -> book.move(number), INDEX);
            throwing("unbind", book -> book.unbind(number), INDEX);
        }
        for (int number : new int[] {-1, 26, 31, 506, 512, 544, Integer.MAX_VALUE, Integer.MIN_VALUE}) {
            throwing("draft", book -> book.draft(number), ARGUMENT);
            throwing("type", book -> book.type(number), ARGUMENT);
            throwing("press", book -> book.press(number), ARGUMENT);
            throwing("release", book -> book.release(number) ? 1 : 0, ARGUMENT);
            throwing("strokeOf", book -> book.strokeOf(number), ARGUMENT);
        }
        for (int number : OUTSIDE) {
            throwing("hold", book -> book.hold(number), ARGUMENT);
            throwing("tick", book -> book.tick(number), ARGUMENT);
            throwing("setTimeout", book -> book.setTimeout(number), ARGUMENT);
        }
        throwing("hold(16)", book -> book.hold(16), ARGUMENT);
        throwing("tick(0)", book -> book.tick(0), ARGUMENT);
        throwing("tick(1001)", book -> book.tick(1001), ARGUMENT);
        throwing("setTimeout(1000)", book -> book.setTimeout(1000), ARGUMENT);
    }

    private static void noChange(ShortcutBook book) {
    }

    private static void refusedCalls() {
        changesAreSeen();
        for (int slot : new int[] {-1, 2, Integer.MAX_VALUE, Integer.MIN_VALUE}) {
            refusing("saveSnapshot", RefusedSentences::noChange, book -> book.saveSnapshot(slot) ? 1 : 0, 0);
            refusing("restoreSnapshot", RefusedSentences::noChange, book -> book.restoreSnapshot(slot) ? 1 : 0, 0);
        }
        refusing("restoreSnapshot of none", RefusedSentences::noChange, book -> book.restoreSnapshot(1) ? 1 : 0, 0);
        refusing("release of no holder", RefusedSentences::noChange, book -> book.release(0) ? 1 : 0, 0);
        refusing("release of one not held", RefusedSentences::noChange, book -> book.release(22) ? 1 : 0, 0);
        refusing("truncateInput(16)", RefusedSentences::noChange, book -> book.truncateInput(16), NONE);
        refusing("truncateInput(-1)", RefusedSentences::noChange, book -> book.truncateInput(-1), NONE);
        refusing("appendInput", book -> Check.input(book, " ".repeat(1581)), book -> book.appendInput(0, 0, 0, 0, 0), NONE);
        clashingCalls();
        fullCalls();
    }

    private static void clashingCalls() {
        for (String draft : new String[] {"x", "x y", "x y a"}) {
            refusing("bind to a reserved one", book -> Check.draft(book, draft), book -> book.bind(1, 0), CLASH);
            refusing("force to a reserved one", book -> Check.draft(book, draft), book -> book.force(1, 0), CLASH);
            refusing("move to a reserved one", book -> Check.draft(book, draft), book -> book.move(2), CLASH);
        }
        for (String draft : new String[] {"a", "a d", "a d a"}) {
            refusing("bind to a bound one", book -> Check.draft(book, draft), book -> book.bind(1, 0), CLASH);
            refusing("reserve of a bound one", book -> Check.draft(book, draft), book -> book.reserve(), CLASH);
            refusing("move to a bound one", book -> Check.draft(book, draft), book -> book.move(3), CLASH);
        }
        Consumer<ShortcutBook> between = book -> {
            Check.draft(book, "x z");
            book.bind(1, 0);
            Check.draft(book, "x");
        };
        refusing("force to a reserved and a bound one", between, book -> book.force(1, 0), CLASH);
    }

    private static void fullCalls() {
        refusing("draft", book -> Check.draft(book, "a b c d"), book -> book.draft(0), FULL);
        refusing("addMode", RefusedSentences::fillModes, book -> book.addMode(0), FULL);
        refusing("addCommand", RefusedSentences::fillCommands, book -> book.addCommand(1, 0), FULL);
        refusing("reserve", RefusedSentences::fillReserved, book -> book.reserve(), FULL);
        refusing("bind", RefusedSentences::fillBindings, book -> book.bind(0, 0), FULL);
        refusing("force", RefusedSentences::fillBindings, book -> book.force(0, 0), FULL);
        refusing("wish", RefusedSentences::fillWishes, book -> book.wish(), FULL);
        refusing("tick", RefusedSentences::passMostTime, book -> book.tick(1000), FULL);
    }

    private static void fillModes(ShortcutBook book) {
        for (int i = 0; i < 3; i++) {
            book.addMode(0);
        }
    }

    private static void fillCommands(ShortcutBook book) {
        for (int i = 0; i < 37; i++) {
            book.addCommand(0, 0);
        }
    }

    private static void fillReserved(ShortcutBook book) {
        for (int i = 0; i < 5; i++) {
            book.reserve();
        }
    }

    /** 75 more bindings in mode 2, and a draft that clashes with nothing. */
    private static void fillBindings(ShortcutBook book) {
        for (int i = 0; i < 75; i++) {
            book.clearDraft();
            book.draft(32 * (i / 25 + 1) + i % 25);
            book.bind(2, 0);
        }
        Check.draft(book, "CSAMz");
    }

    private static void fillWishes(ShortcutBook book) {
        for (int i = 0; i < 8; i++) {
            book.wish();
        }
    }

    private static void passMostTime(ShortcutBook book) {
        Check.input(book, "tick 999;".repeat(40));
        for (int i = 0; i < 25; i++) {
            book.play();
        }
        book.tick(500);
        book.type(0);
    }

    /** The state tells apart what can change at all, so that "unchanged" says something. */
    private static void changesAreSeen() {
        seen("draft", book -> book.draft(0));
        seen("clearDraft", book -> book.clearDraft());
        seen("addMode", book -> book.addMode(0));
        seen("addCommand", book -> book.addCommand(0, 0));
        seen("reserve", book -> book.reserve());
        seen("bind", book -> book.bind(0, 0));
        seen("force", book -> book.force(0, 0));
        seen("move", book -> book.move(1));
        seen("unbind", book -> book.unbind(4));
        seen("hold", book -> book.hold(6));
        seen("press of a holder", book -> book.press(22));
        seen("release", book -> book.release(16) ? 1 : 0);
        seen("type", book -> book.type(25));
        seen("tick", book -> book.tick(1));
        seen("setTimeout", book -> book.setTimeout(51));
        seen("wish", book -> book.wish());
        seen("clearWishes", book -> book.clearWishes());
        seen("saveSnapshot(0)", book -> book.saveSnapshot(0) ? 1 : 0);
        seen("saveSnapshot(1)", book -> book.saveSnapshot(1) ? 1 : 0);
        seen("restoreSnapshot(0)", book -> book.restoreSnapshot(0) ? 1 : 0);
        seen("truncateInput", book -> book.truncateInput(14));
        seen("appendInput", book -> book.appendInput(0, 0, 0, 0, 0));
        seen("load", book -> book.load());
        seen("play", book -> book.play());
    }

    private static void seen(String name, ToLongFunction<ShortcutBook> call) {
        ShortcutBook book = full();
        call.applyAsLong(book);
        Check.due(name + " changes something", state(book).equals(state(full())), false);
    }

    private static void emptyDraft() {
        refusing("reserve", book -> book.clearDraft(), book -> book.reserve(), REFUSED);
        refusing("bind", book -> book.clearDraft(), book -> book.bind(1, 1), REFUSED);
        refusing("force", book -> book.clearDraft(), book -> book.force(1, 1), REFUSED);
        refusing("move", book -> book.clearDraft(), book -> book.move(0), REFUSED);
        refusing("clashing", book -> book.clearDraft(), book -> book.clashing(0), REFUSED);
        refusing("clashes", book -> book.clearDraft(), book -> book.clashes(0), REFUSED);
        refusing("reason", book -> book.clearDraft(), book -> book.reason(0), REFUSED);
        refusing("look", book -> book.clearDraft(), book -> book.look(0), REFUSED);
        refusing("wish", book -> book.clearDraft(), book -> book.wish(), REFUSED);
        refusing("draftCost", book -> book.clearDraft(), book -> book.draftCost(), 0);
        refusing("continuations", book -> book.clearDraft(), book -> book.continuations(0), 2);
        refusing("typeDraft", book -> book.clearDraft(), book -> book.typeDraft(), 0);
        unchanged("bind in no mode", book -> book.clearDraft(), book -> book.bind(3, 0), INDEX);
        unchanged("bind to no command", book -> book.clearDraft(), book -> book.bind(0, 3), INDEX);
        unchanged("force in no mode", book -> book.clearDraft(), book -> book.force(3, 0), INDEX);
        unchanged("move of no binding", book -> book.clearDraft(), book -> book.move(5), INDEX);
        unchanged("look in no mode", book -> book.clearDraft(), book -> book.look(3), INDEX);
        unchanged("clashing in no mode", book -> book.clearDraft(), book -> book.clashing(3), INDEX);
        unchanged("clashes in no mode", book -> book.clearDraft(), book -> book.clashes(3), INDEX);
        unchanged("reason in no mode", book -> book.clearDraft(), book -> book.reason(3), INDEX);
    }
}
