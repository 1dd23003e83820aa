/** Promises 27 to 41 without 36 and 39: visible bindings and free sequences; indexes far beyond the end. */
public final class ViewTest {
    private static final int REFUSED = ShortcutBook.REFUSED;
    private static final int NONE = ShortcutBook.NONE;

    private ViewTest() {
    }

    public static void main(String[] args) {
        wrongModes();
        look();
        continuations();
        visible();
        shadowedShadows();
        shadowOf();
        reachable();
        prefixes();
        bestFor();
        freeStrokes();
        cheapestOne();
        cheapestTwo();
        cheapestNone();
        cheapestMeta();
        cheapestInOrder();
        farIndexes();
        effort();
        meanCost();
        Check.end();
    }

    private static void wrongModes() {
        ShortcutBook book = Check.loaded("mode 0;plain;bind 0 0 a;");
        Check.draft(book, "a");
        for (int one : new int[] {-1, 2, Integer.MAX_VALUE, Integer.MIN_VALUE}) {
            int mode = one;
            Check.index("look", () -> book.look(mode));
            Check.index("continuations", () -> book.continuations(mode));
            Check.index("visible", () -> book.visible(mode));
            Check.index("visibleAt", () -> book.visibleAt(mode, 0));
            Check.index("shadowOf", () -> book.shadowOf(mode, 0));
            Check.index("shadowOf of no binding", () -> book.shadowOf(0, mode));
            Check.index("reachable", () -> book.reachable(mode));
            Check.index("prefixes", () -> book.prefixes(mode));
            Check.index("bestFor", () -> book.bestFor(mode, 0));
            Check.index("bestFor of no command", () -> book.bestFor(0, mode));
            Check.index("freeStrokes", () -> book.freeStrokes(mode));
            Check.index("cheapest", () -> book.cheapest(mode, 9, true));
            Check.argument("cheapest of no length", () -> book.cheapest(0, mode == 2 ? 3 : mode, true));
            Check.index("effort", () -> book.effort(mode));
            Check.index("meanCostBits", () -> book.meanCostBits(mode));
        }
        Check.argument("cheapest of length 0", () -> book.cheapest(0, 0, true));
    }

    private static final String FAMILY = "mode 0;mode 1;mode 0;plain;back;"
        + "bind 0 0 a b;bind 0 0 a c;bind 0 1 d;bind 0 0 e;bind 1 0 a b c;bind 1 0 f;bind 2 0 e g;bind 2 1 a b;bind 3 0 d;";

    private static void look() {
        ShortcutBook book = Check.loaded(FAMILY);
        Check.due("look of nothing", book.look(0), REFUSED);
        String[] drafts = {"a b", "a c", "d", "e", "a b c", "f", "e g", "a", "a b c d"};
        int[][] due = {
            {0, 1, 2, 3, NONE, NONE, NONE, NONE, NONE},
            {NONE, 1, 2, 3, 4, 5, NONE, NONE, NONE},
            {7, 1, 2, NONE, NONE, 5, 6, NONE, NONE},
            {0, 1, 8, 3, NONE, NONE, NONE, NONE, NONE}
        };
        for (int mode = 0; mode < 4; mode++) {
            for (int i = 0; i < drafts.length; i++) {
                Check.draft(book, drafts[i]);
                Check.due("look(" + mode + ") of " + drafts[i], book.look(mode), due[mode][i]);
            }
        }
    }

    private static void continuations() {
        ShortcutBook book = Check.loaded(FAMILY);
        String[] drafts = {"", "a", "a b", "e", "a b c", "b", "a b c d"};
        int[][] due = {{4, 2, 0, 0, 0, 0, 0}, {5, 2, 1, 0, 0, 0, 0}, {5, 2, 0, 1, 0, 0, 0}};
        for (int mode = 0; mode < 3; mode++) {
            for (int i = 0; i < drafts.length; i++) {
                Check.draft(book, drafts[i]);
                Check.due("continuations(" + mode + ") of " + drafts[i], book.continuations(mode), due[mode][i]);
            }
        }
    }

    private static void visible() {
        ShortcutBook book = Check.loaded(FAMILY);
        int[][] due = {{0, 1, 2, 3, NONE}, {4, 1, 2, 3, 5, NONE}, {7, 1, 2, 6, 5, NONE}, {0, 1, 8, 3, NONE}};
        for (int mode = 0; mode < 4; mode++) {
            Check.due("visible(" + mode + ")", book.visible(mode), due[mode].length - 1);
            for (int i = 0; i < due[mode].length; i++) {
                Check.due("visibleAt(" + mode + ", " + i + ")", book.visibleAt(mode, i), due[mode][i]);
            }
            Check.due("visibleAt(" + mode + ", -1)", book.visibleAt(mode, -1), NONE);
        }
        ShortcutBook order = Check.loaded("plain;bind 0 0 Ca;bind 0 0 z;bind 0 0 b a;bind 0 0 b Sa;bind 0 0 a z;");
        int[] sorted = {4, 2, 3, 1, 0};
        for (int i = 0; i < sorted.length; i++) {
            Check.due("by ascending sequences: " + i, order.visibleAt(0, i), sorted[i]);
        }
    }

    /** A binding that is shadowed half way down stays so, though what shadowed it is shadowed too. */
    private static void shadowedShadows() {
        ShortcutBook book = Check.loaded("mode 0;mode 1;plain;bind 0 0 a b;bind 1 0 a;bind 2 0 a c;");
        Check.due("visible(2)", book.visible(2), 1);
        Check.due("visibleAt(2, 0)", book.visibleAt(2, 0), 2);
        ShortcutBook chain = Check.loaded("mode 0;mode 1;mode 2;mode 3;mode 4;plain;bind 0 0 a;bind 0 0 b;bind 1 0 b c;");
        Check.due("five modes above", chain.visible(5), 2);
        Check.due("shadowOf(5, 0)", chain.shadowOf(5, 0), NONE);
        Check.due("shadowOf(5, 1)", chain.shadowOf(5, 1), 2);
        ShortcutBook turned = Check.loaded("mode 0;plain;bind 1 0 a;bind 0 0 a b;");
        Check.due("a lower number shadows too", turned.visible(1), 1);
        Check.due("visibleAt(1, 0)", turned.visibleAt(1, 0), 0);
    }

    private static void shadowOf() {
        ShortcutBook book = Check.loaded("mode 0;mode 1;mode 2;mode 1;plain;bind 0 0 a;bind 2 0 a c;bind 2 0 a b;bind 1 0 x;bind 3 0 a;bind 1 0 y;bind 3 0 z;");
        Check.due("shadowOf(0, 0)", book.shadowOf(0, 0), NONE);
        Check.due("shadowOf(1, 0)", book.shadowOf(1, 0), NONE);
        Check.due("shadowOf(2, 0): the lowest one", book.shadowOf(2, 0), 1);
        Check.due("shadowOf(3, 0): the first mode on the way down", book.shadowOf(3, 0), 1);
        Check.due("shadowOf(3, 1)", book.shadowOf(3, 1), 4);
        Check.due("shadowOf(4, 0): another branch", book.shadowOf(4, 0), NONE);
        Check.due("shadowOf(4, 1): not above it", book.shadowOf(4, 1), NONE);
        Check.due("shadowOf(0, 4): not above it", book.shadowOf(0, 4), NONE);
        Check.due("shadowOf(2, 4): not above it", book.shadowOf(2, 4), NONE);
        Check.due("shadowOf(2, 1): its own mode", book.shadowOf(2, 1), NONE);
        Check.due("shadowOf(3, 3): visible", book.shadowOf(3, 3), NONE);
    }

    private static void reachable() {
        ShortcutBook book = Check.loaded("mode 0;plain;plain;back;plain;bind 0 0 a;bind 0 1 b;bind 1 2 b c;bind 0 0 d;");
        Check.due("reachable(0)", book.reachable(0), 2);
        Check.due("reachable(1)", book.reachable(1), 2);
        Check.due("unreachable()", book.unreachable(), 1);
        book.unbind(2);
        Check.due("reachable(1)", book.reachable(1), 2);
        Check.due("unreachable()", book.unreachable(), 2);
        Check.due("reachable(0) of three", Check.loaded("plain;plain;back;bind 0 1 a;").reachable(0), 1);
        Check.due("unreachable() of three", Check.loaded("plain;plain;back;bind 0 1 a;").unreachable(), 2);
        Check.due("unreachable() of nothing", new ShortcutBook().unreachable(), 0);
        Check.due("reachable(0) of nothing", new ShortcutBook().reachable(0), 0);
    }

    private static void prefixes() {
        ShortcutBook book = Check.loaded("mode 0;plain;bind 0 0 a b c d;bind 0 0 a b c e;bind 0 0 b;bind 0 0 a c;bind 0 0 c b c d;bind 1 0 a b;");
        Check.due("prefixes(0)", book.prefixes(0), 5 + 1 + 1 + 4);
        Check.due("prefixes(1)", book.prefixes(1), 3 + 1 + 4);
        Check.due("prefixes of nothing", new ShortcutBook().prefixes(0), 0);
    }

    private static void bestFor() {
        ShortcutBook book = Check.loaded("mode 0;plain;back;plain;bind 0 0 Ca;bind 0 0 b;bind 0 0 z;bind 1 0 b c;bind 0 1 a;");
        Check.due("bestFor(0, 0): the lowest of three", book.bestFor(0, 0), 0);
        Check.due("bestFor(1, 0)", book.bestFor(1, 0), 0);
        Check.due("bestFor(0, 2)", book.bestFor(0, 2), NONE);
        Check.due("bestFor(1, 1)", book.bestFor(1, 1), 4);
        Check.draft(book, "q");
        book.bind(1, 0);
        Check.due("bestFor(1, 0): the cheaper one", book.bestFor(1, 0), 5);
        Check.due("bestFor(0, 0): not that of a child", book.bestFor(0, 0), 0);
    }

    private static void freeStrokes() {
        Check.due("all", new ShortcutBook().freeStrokes(0), 130);
        ShortcutBook book = Check.loaded("mode 0;plain;reserve x y;reserve x;reserve CSx;bind 0 0 a b;bind 0 0 a c;bind 0 0 Mz;bind 0 0 SAq;bind 1 0 e;");
        Check.due("freeStrokes(0)", book.freeStrokes(0), 127);
        Check.due("freeStrokes(1): those of the parent may be shadowed", book.freeStrokes(1), 128);
    }

    private static void cheapestOne() {
        ShortcutBook book = Check.loaded("mode 0;plain;reserve a;reserve s x;bind 0 0 d;bind 0 0 f g;bind 0 0 g;bind 0 0 h;bind 1 0 j;");
        Check.due("cheapest(0, 1, true)", book.cheapest(0, 1, true), 1);
        Check.due("it is j", book.draftStroke(0), 9);
        Check.due("it has one stroke", book.count(10), 1);
        Check.due("cheapest(0, 1, false)", book.cheapest(0, 1, false), 1);
        Check.due("mode 0 has no parent: j", book.draftStroke(0), 9);
        Check.due("cheapest(1, 1, true)", book.cheapest(1, 1, true), 1);
        Check.due("it may shadow d", book.draftStroke(0), 3);
        Check.due("cheapest(1, 1, false)", book.cheapest(1, 1, false), 1);
        Check.due("it may not shadow: k", book.draftStroke(0), 10);
        ShortcutBook costly = Check.loaded("reserve a;plain;" + binds("sdfghjkl"));
        Check.due("no key of cost 1", costly.cheapest(0, 1, true), 2);
        Check.due("it is e", costly.draftStroke(0), 4);
        costly = Check.loaded("reserve a;plain;" + binds("sdfghjklqwertyuiop"));
        Check.due("no key of cost 2", costly.cheapest(0, 1, true), 3);
        Check.due("it is b, before Ca", costly.draftStroke(0), 1);
        costly = Check.loaded("reserve a;plain;" + binds("sdfghjklqwertyuiopzxcvbnm"));
        Check.due("no key alone", costly.cheapest(0, 1, true), 3);
        Check.due("it is Ca", costly.draftStroke(0), 32);
    }

    private static String binds(String keys) {
        StringBuilder text = new StringBuilder();
        for (char key : keys.toCharArray()) {
            text.append("bind 0 0 ").append(key).append(';');
        }
        return text.toString();
    }

    private static void cheapestTwo() {
        ShortcutBook book = Check.loaded("mode 0;plain;reserve a a;bind 0 0 a d;bind 0 0 a f z;bind 1 0 a g;");
        Check.due("cheapest(0, 2, true)", book.cheapest(0, 2, true), 2);
        Check.due("its first stroke", book.draftStroke(0), 0);
        Check.due("a g", book.draftStroke(1), 6);
        Check.due("it has two strokes", book.count(10), 2);
        Check.due("cheapest(1, 2, true)", book.cheapest(1, 2, true), 2);
        Check.due("a d shadows", book.draftStroke(1), 3);
        Check.due("cheapest(1, 2, false)", book.cheapest(1, 2, false), 2);
        Check.due("a h does not", book.draftStroke(1), 7);
        ShortcutBook costly = Check.loaded("reserve a;plain;" + binds("sdfghjkl"));
        Check.due("no first key of cost 1", costly.cheapest(0, 2, true), 3);
        Check.due("e", costly.draftStroke(0), 4);
        Check.due("a", costly.draftStroke(1), 0);
        ShortcutBook modified = Check.loaded("reserve a;plain;" + binds("sdfghjklqwertyuiopzxcvbnm"));
        Check.due("no first key alone", modified.cheapest(0, 2, true), 4);
        Check.due("Ca", modified.draftStroke(0), 32);
        Check.due("a", modified.draftStroke(1), 0);
    }

    /** 80 bindings and 6 reserved strokes leave 44 strokes free: only a parent can take the rest. */
    private static void cheapestNone() {
        ShortcutBook book = Check.loaded("mode 0;plain;");
        int made = 0;
        String[] sets = {"", "C", "S", "A", "M"};
        for (int set = 0; set < 5; set++) {
            for (char key = 'a'; key <= 'z'; key++) {
                Check.draft(book, sets[set] + key);
                if (made < 80) {
                    book.bind(made % 2, 0);
                } else if (made < 86) {
                    book.reserve();
                }
                made++;
            }
        }
        Check.due("with shadows", book.cheapest(1, 1, true), 1);
        Check.due("a", book.draftStroke(0), 0);
        Check.due("without shadows", book.cheapest(1, 1, false), 3);
        Check.due("Aj", book.draftStroke(0), 32 * 4 + 9);
        Check.due("freeStrokes(1)", book.freeStrokes(1), 130 - 40 - 6);
        Check.due("two strokes without shadows", book.cheapest(1, 2, false), 4);
        Check.due("Aj", book.draftStroke(0), 32 * 4 + 9);
        Check.due("a", book.draftStroke(1), 0);
    }

    /** Meta comes last of all that cost the same. */
    private static void cheapestMeta() {
        ShortcutBook one = Check.loaded("plain;");
        ShortcutBook two = Check.loaded("plain;");
        for (int set = 0; set < 8; set = set == 0 ? 1 : 2 * set) {
            for (int key = 0; key < 26; key++) {
                boolean home = "asdfghjkl".indexOf('a' + key) >= 0;
                if (set == 0 || home) {
                    one.clearDraft();
                    one.draft(32 * set + key);
                    one.bind(0, 0);
                    two.clearDraft();
                    two.draft(0);
                    two.draft(32 * set + key);
                    two.bind(0, 0);
                }
            }
        }
        Check.due("bindings", one.count(3), 26 + 27);
        Check.due("one stroke", one.cheapest(0, 1, true), 3);
        Check.due("Ma", one.draftStroke(0), 256);
        Check.due("two strokes", one.cheapest(0, 2, true), 4);
        Check.due("Ma", one.draftStroke(0), 256);
        Check.due("a", one.draftStroke(1), 0);
        for (char key : "sdfghjklqwertyuiop".toCharArray()) {
            Check.draft(two, String.valueOf(key));
            two.bind(0, 0);
        }
        Check.due("bindings", two.count(3), 26 + 27 + 18);
        Check.due("two strokes behind a", two.cheapest(0, 2, true), 4);
        Check.due("a", two.draftStroke(0), 0);
        Check.due("Ma", two.draftStroke(1), 256);
    }

    /** Binds what is cheapest until there is no room: strokes come by cost, then by their numbers. */
    private static void cheapestInOrder() {
        ShortcutBook book = Check.loaded("plain;");
        int bound = 0;
        for (int cost = 1; cost <= 4; cost++) {
            for (int stroke = 0; stroke < 32 * 9 && bound < 80; stroke++) {
                if (stroke % 32 < 26 && Integer.bitCount(stroke / 32) <= 1 && costOf(stroke) == cost) {
                    Check.due("cheapest(0, 1, true) behind " + bound, book.cheapest(0, 1, true), cost);
                    Check.due("its stroke", book.draftStroke(0), stroke);
                    Check.due("bind(0, 0)", book.bind(0, 0), bound);
                    bound++;
                }
            }
        }
        Check.due("all are bound", bound, 80);
        Check.due("freeStrokes(0)", book.freeStrokes(0), 50);
        Check.due("two strokes", book.cheapest(0, 2, true), 5);
        Check.due("the first stroke", book.draftStroke(0), Check.stroke("Sw"));
        Check.due("the second stroke", book.draftStroke(1), 0);
    }

    private static int costOf(int stroke) {
        int key = 1;
        if ("qwertyuiop".indexOf((char) ('a' + stroke % 32)) >= 0) {
            key = 2;
        } else if ("asdfghjkl".indexOf((char) ('a' + stroke % 32)) < 0) {
            key = 3;
        }
        return key + 2 * Integer.bitCount(stroke / 32);
    }

    private static void farIndexes() {
        ShortcutBook book = Check.loaded("plain;switch 0;reserve z;bind 0 0 a b c d;bind 0 1 b;");
        Check.draft(book, "a b c d");
        book.type(1);
        book.type(0);
        Check.due("a row", book.count(7), 1);
        Check.due("pending strokes", book.count(5), 1);
        for (int far : new int[] {4, 5, 6, 7, 8, 31, 80, 1000, Integer.MAX_VALUE, -2, -5, Integer.MIN_VALUE}) {
            Check.due("draftStroke(" + far + ")", book.draftStroke(far), NONE);
            Check.due("bindingStroke(0, " + far + ")", book.bindingStroke(0, far), NONE);
            Check.due("reservedStroke(0, " + far + ")", book.reservedStroke(0, far), NONE);
            Check.due("visibleAt(0, " + far + ")", book.visibleAt(0, far), NONE);
            Check.due("pending(" + far + ")", book.pending(far), NONE);
            Check.due("backTo(" + far + ")", book.backTo(far), NONE);
        }
    }

    private static void effort() {
        ShortcutBook book = Check.loaded("mode 0;plain;back;plain;bind 0 0 Ca;bind 0 0 z;bind 0 1 b;bind 0 2 e;bind 1 2 b c;");
        Check.due("effort(0) before any use", book.effort(0), 0);
        Check.type(book, "Ca z z b e e");
        Check.due("effort(0)", book.effort(0), 3 * 3 + 1 * 3 + 2 * 2);
        Check.due("effort(1)", book.effort(1), 3 * 3 + 2 * 2);
        book.unbind(3);
        Check.due("effort(1): b c costs 6", book.effort(1), 3 * 3 + 2 * 6);
        Check.due("effort(0): no binding of 2", book.effort(0), 3 * 3 + 1 * 3);
    }

    private static void meanCost() {
        ShortcutBook book = Check.loaded("mode 0;plain;");
        Check.arithmetic("meanCostBits(0) of nothing", () -> book.meanCostBits(0));
        Check.arithmetic("meanCostBits(1) of nothing", () -> book.meanCostBits(1));
        ShortcutBook more = Check.loaded("mode 0;plain;bind 0 0 a;bind 1 0 b;bind 1 0 CSAMz CSAMz CSAMz CSAMz;bind 1 0 q;");
        Check.due("meanCostBits(0)", more.meanCostBits(0), Float.floatToIntBits(1.0f));
        Check.due("meanCostBits(1)", more.meanCostBits(1), Float.floatToIntBits(50.0f / 4.0f));
        Check.draft(more, "e");
        more.bind(1, 0);
        more.draft(0);
        Check.draft(more, "r a");
        more.bind(1, 0);
        Check.due("meanCostBits(1)", more.meanCostBits(1), Float.floatToIntBits(55.0f / 6.0f));
        Check.due("all of cost 44", Check.loaded("plain;bind 0 0 CSAMz CSAMz CSAMz CSAMz;").meanCostBits(0),
            Float.floatToIntBits(44.0f));
    }
}
