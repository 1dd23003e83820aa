/**
 * A book of keyboard shortcuts: sequences of strokes are bound to commands in modes that inherit
 * from each other; layers remap keys; typing goes stroke by stroke through the sequences.
 *
 * All rows are made once, in the constructors, and used again: no call makes an object.
 */
public final class ShortcutBook {
    public static final int NONE = -1;
    public static final int FULL = -2;
    public static final int TEXT_ERROR = -3;
    public static final int REFUSED = -4;
    public static final int CLASH = -1000;

    private static final int MODES = 6;
    private static final int COMMANDS = 40;
    private static final int RESERVED = 6;
    private static final int BINDINGS = 80;
    private static final int LAYERS = 4;
    private static final int WISHES = 10;
    private static final int BACK_MODES = 8;
    private static final int PLAY_COMMANDS = 40;
    private static final int TEXT_BYTES = 1600;
    private static final int APPENDED_BYTES = 20;
    private static final int KEYS = 26;
    private static final int MODIFIER_SETS = 16;
    private static final int KINDS = 3;
    private static final int SWITCH = 1;
    private static final int BACK = 2;
    private static final int LONGEST_TICK = 1000;
    private static final int LAST_TIME = 1000000;
    private static final int TIMEOUTS = 1000;

    private static final int SYNTAX_ERROR = 1;
    private static final int RANGE_ERROR = 2;
    private static final int LIMIT_ERROR = 3;
    private static final int CLASH_ERROR = 4;
    private static final int MISSING_MODE_ERROR = 5;

    private final Book book;
    private final Book loaded;
    private final Book firstSnapshot;
    private final Book secondSnapshot;
    private final View view;
    private final Typist typist;
    private final Tokens tokens;
    private final Reader reader;
    private final Script script;
    private long draftSequence;

    public ShortcutBook() {
        book = new Book();
        loaded = new Book();
        firstSnapshot = new Book();
        secondSnapshot = new Book();
        view = new View(book);
        typist = new Typist(book, view);
        tokens = new Tokens();
        reader = new Reader(tokens, loaded);
        script = new Script(tokens, book, typist);
        draftSequence = 0L;
    }

    // The input and its errors

    public int appendInput(int w0, int w1, int w2, int w3, int w4) {
        if (tokens.length + APPENDED_BYTES > TEXT_BYTES) {
            return NONE;
        }
        tokens.appendFour(w0);
        tokens.appendFour(w1);
        tokens.appendFour(w2);
        tokens.appendFour(w3);
        tokens.appendFour(w4);
        return tokens.length;
    }

    public int truncateInput(int length) {
        if (length < 0 || length > tokens.length) {
            return NONE;
        }
        tokens.length = length;
        return length;
    }

    public int load() {
        boolean readable = reader.readText();
        tokens.length = 0;
        if (!readable) {
            return TEXT_ERROR;
        }
        book.copyFrom(loaded);
        firstSnapshot.saved = false;
        secondSnapshot.saved = false;
        return book.bindingModes.size();
    }

    public int errorCode() {
        return tokens.faultCode;
    }

    public int errorPosition() {
        return tokens.faultPosition;
    }

    public int count(int what) {
        switch (what) {
            case 0: return book.parents.size();
            case 1: return book.layers.holders.size();
            case 2: return book.kinds.size();
            case 3: return book.bindingModes.size();
            case 4: return book.reserved.size();
            case 5: return Sequences.lengthOf(book.typing.pendingSequence);
            case 6: return book.typing.time;
            case 7: return book.typing.backModes.size();
            case 8: return book.wishes.size();
            case 9: return book.typing.timeout;
            case 10: return Sequences.lengthOf(draftSequence);
            default: return NONE;
        }
    }

    // The draft

    public int draft(int stroke) throws IllegalArgumentException {
        needStroke(stroke);
        int strokes = Sequences.lengthOf(draftSequence);
        if (strokes >= Sequences.LONGEST) {
            return FULL;
        }
        draftSequence = Sequences.extended(draftSequence, stroke);
        return strokes + 1;
    }

    public int clearDraft() {
        int strokes = Sequences.lengthOf(draftSequence);
        draftSequence = 0L;
        return strokes;
    }

    public int draftStroke(int index) {
        return Sequences.strokeAt(draftSequence, index);
    }

    public int draftFrom(int binding) throws IndexOutOfBoundsException {
        needBinding(binding);
        draftSequence = book.bindingSequences.at(binding);
        return Sequences.lengthOf(draftSequence);
    }

    public int draftCost() {
        return Sequences.costOf(draftSequence);
    }

    // Modes, commands and reserved sequences

    public int addMode(int parent) throws IndexOutOfBoundsException {
        needMode(parent);
        return book.parents.push(parent) ? book.parents.size() - 1 : FULL;
    }

    public int parentOf(int mode) throws IndexOutOfBoundsException {
        needMode(mode);
        return book.parents.at(mode);
    }

    public int addCommand(int kind, int target) throws IllegalArgumentException, IndexOutOfBoundsException {
        if (kind < 0 || kind >= KINDS) {
            throw new IllegalArgumentException("no such kind");
        }
        if (kind == SWITCH) {
            needMode(target);
        }
        if (book.kinds.isFull()) {
            return FULL;
        }
        book.appendCommand(kind, target);
        return book.kinds.size() - 1;
    }

    public int command(int command, int what) throws IndexOutOfBoundsException {
        needCommand(command);
        switch (what) {
            case 0: return book.kinds.at(command);
            case 1: return book.targets.at(command);
            case 2: return book.uses.at(command);
            case 3: return book.bindingCommands.occurrences(command);
            default: return NONE;
        }
    }

    public int reserve() {
        if (draftSequence == 0L) {
            return REFUSED;
        }
        if (book.bindingSequences.hasClash(draftSequence)) {
            return CLASH;
        }
        return book.reserved.push(draftSequence) ? book.reserved.size() - 1 : FULL;
    }

    public int reservedStroke(int reserved, int index) throws IndexOutOfBoundsException {
        if (reserved < 0 || reserved >= book.reserved.size()) {
            throw new IndexOutOfBoundsException("no such reserved sequence");
        }
        return Sequences.strokeAt(book.reserved.at(reserved), index);
    }

    // Bindings

    public int bind(int mode, int command) throws IndexOutOfBoundsException {
        needMode(mode);
        needCommand(command);
        return draftSequence == 0L ? REFUSED : book.placeBinding(mode, command, draftSequence);
    }

    public int force(int mode, int command) throws IndexOutOfBoundsException {
        needMode(mode);
        needCommand(command);
        return draftSequence == 0L ? REFUSED : book.placeByForce(mode, command, draftSequence);
    }

    public int move(int binding) throws IndexOutOfBoundsException {
        needBinding(binding);
        return draftSequence == 0L ? REFUSED : book.replaceSequence(binding, draftSequence);
    }

    public int unbind(int binding) throws IndexOutOfBoundsException {
        needBinding(binding);
        book.removeBinding(binding);
        return book.bindingModes.size();
    }

    public int binding(int binding, int what) throws IndexOutOfBoundsException {
        needBinding(binding);
        switch (what) {
            case 0: return book.bindingModes.at(binding);
            case 1: return book.bindingCommands.at(binding);
            case 2: return Sequences.lengthOf(book.bindingSequences.at(binding));
            case 3: return Sequences.costOf(book.bindingSequences.at(binding));
            default: return NONE;
        }
    }

    public int bindingStroke(int binding, int index) throws IndexOutOfBoundsException {
        needBinding(binding);
        return Sequences.strokeAt(book.bindingSequences.at(binding), index);
    }

    public int clashing(int mode) throws IndexOutOfBoundsException {
        needMode(mode);
        return draftSequence == 0L ? REFUSED : book.lowestClash(mode, draftSequence, NONE);
    }

    public int clashes(int mode) throws IndexOutOfBoundsException {
        needMode(mode);
        return draftSequence == 0L ? REFUSED : book.ownClashes(mode, draftSequence);
    }

    public int reason(int mode) throws IndexOutOfBoundsException {
        needMode(mode);
        return draftSequence == 0L ? REFUSED : book.obstacle(mode, draftSequence);
    }

    public int packed(int binding, int kind) throws IndexOutOfBoundsException, IllegalArgumentException {
        needBinding(binding);
        long number = Sequences.asNumber(book.bindingSequences.at(binding));
        switch (kind) {
            case 0: return (byte) number;
            case 1: return (short) number;
            case 2: return (char) number;
            case 3: return (int) number;
            default: throw new IllegalArgumentException("no such kind");
        }
    }

    public int common(int one, int other) throws IndexOutOfBoundsException {
        needBinding(one);
        needBinding(other);
        return Sequences.sharedStrokes(book.bindingSequences.at(one), book.bindingSequences.at(other));
    }

    public int leadingSwitches() {
        int leading = 0;
        int bindings = book.bindingCommands.size();
        while (leading < bindings && book.kinds.at(book.bindingCommands.at(leading)) == SWITCH) {
            leading++;
        }
        return leading;
    }

    public int clashPairs(int mode, int other) throws IndexOutOfBoundsException, IllegalArgumentException {
        needMode(mode);
        needMode(other);
        if (mode == other) {
            throw new IllegalArgumentException("both modes are one");
        }
        int pairs = 0;
        for (int i = 0; i < book.bindingModes.size(); i++) {
            if (book.bindingModes.at(i) == mode) {
                pairs += book.ownClashes(other, book.bindingSequences.at(i));
            }
        }
        return pairs;
    }

    public int digest() {
        int digest = 7;
        for (int i = 0; i < book.bindingModes.size(); i++) {
            digest = 31 * digest + book.bindingModes.at(i);
            digest = 31 * digest + book.bindingCommands.at(i);
            long sequence = book.bindingSequences.at(i);
            int strokes = Sequences.lengthOf(sequence);
            for (int k = 0; k < strokes; k++) {
                digest = 31 * digest + Sequences.strokeAt(sequence, k);
            }
        }
        return digest;
    }

    // Visible bindings

    public int look(int mode) throws IndexOutOfBoundsException {
        needMode(mode);
        if (draftSequence == 0L) {
            return REFUSED;
        }
        view.standIn(mode);
        return view.seenWith(draftSequence);
    }

    public int continuations(int mode) throws IndexOutOfBoundsException {
        needMode(mode);
        view.gather(mode);
        return view.countLonger(draftSequence);
    }

    public int visible(int mode) throws IndexOutOfBoundsException {
        needMode(mode);
        view.gather(mode);
        return view.seen.size();
    }

    public int visibleAt(int mode, int index) throws IndexOutOfBoundsException {
        needMode(mode);
        view.gather(mode);
        view.sortSeen();
        return view.seen.at(index);
    }

    public int shadowOf(int mode, int binding) throws IndexOutOfBoundsException {
        needMode(mode);
        needBinding(binding);
        return book.shadowing(mode, binding);
    }

    public int reachable(int mode) throws IndexOutOfBoundsException {
        needMode(mode);
        view.gather(mode);
        int reached = 0;
        for (int i = 0; i < book.kinds.size(); i++) {
            if (view.cheapestSeen(i) != NONE) {
                reached++;
            }
        }
        return reached;
    }

    public int unreachable() {
        int unreached = 0;
        for (int i = 0; i < book.kinds.size(); i++) {
            // Each binding is visible in its own mode, so only a command without any is out of reach.
            if (book.bindingCommands.occurrences(i) == 0) {
                unreached++;
            }
        }
        return unreached;
    }

    public int prefixes(int mode) throws IndexOutOfBoundsException {
        needMode(mode);
        view.gather(mode);
        view.sortSeen();
        return view.countPrefixes();
    }

    public int bestFor(int mode, int command) throws IndexOutOfBoundsException {
        needMode(mode);
        needCommand(command);
        view.gather(mode);
        return view.cheapestSeen(command);
    }

    public long effort(int mode) throws IndexOutOfBoundsException {
        needMode(mode);
        view.gather(mode);
        long sum = 0L;
        for (int i = 0; i < book.kinds.size(); i++) {
            int best = view.cheapestSeen(i);
            if (best != NONE) {
                sum += (long) Sequences.costOf(book.bindingSequences.at(best)) * book.uses.at(i);
            }
        }
        return sum;
    }

    public int meanCostBits(int mode) throws IndexOutOfBoundsException, ArithmeticException {
        needMode(mode);
        view.gather(mode);
        int number = view.seen.size();
        if (number <= 0) {
            throw new ArithmeticException("no visible binding");
        }
        int sum = 0;
        for (int i = 0; i < number; i++) {
            sum += Sequences.costOf(book.bindingSequences.at(view.seen.at(i)));
        }
        return bitsOf((float) sum / (float) number);
    }

    // Free sequences

    public int freeStrokes(int mode) throws IndexOutOfBoundsException {
        needMode(mode);
        view.barFor(mode, true);
        return view.countFreeStrokes();
    }

    public int cheapest(int mode, int length, boolean shadows)
            throws IndexOutOfBoundsException, IllegalArgumentException {
        needMode(mode);
        if (length < 1 || length > 2) {
            throw new IllegalArgumentException("no such length");
        }
        view.barFor(mode, shadows);
        long best = length == 1 ? view.cheapestStroke() : view.cheapestPair();
        if (best == 0L) {
            return NONE;
        }
        draftSequence = best;
        return Sequences.costOf(best);
    }

    // Layers

    public int layer(int layer, int what) throws IndexOutOfBoundsException {
        needLayer(layer);
        switch (what) {
            case 0: return book.layers.holders.at(layer);
            case 1: return book.layers.mappedKeys(layer);
            case 2: return book.layers.held.at(layer);
            default: return NONE;
        }
    }

    public int mapped(int layer, int key) throws IndexOutOfBoundsException, IllegalArgumentException {
        needLayer(layer);
        needKey(key);
        return book.layers.keyBehind(layer, key);
    }

    public int hold(int modifiers) throws IllegalArgumentException {
        if (modifiers < 0 || modifiers >= MODIFIER_SETS) {
            throw new IllegalArgumentException("no such set of modifiers");
        }
        int previous = book.layers.modifiers;
        book.layers.modifiers = modifiers;
        return previous;
    }

    public int strokeOf(int key) throws IllegalArgumentException {
        needKey(key);
        return book.layers.holders.indexOf(key) == NONE ? book.layers.strokeMade(key) : NONE;
    }

    public boolean release(int key) throws IllegalArgumentException {
        needKey(key);
        return book.layers.letGo(key);
    }

    // Typing

    public int press(int key) throws IllegalArgumentException {
        needKey(key);
        return typist.pressKey(key);
    }

    public int type(int stroke) throws IllegalArgumentException {
        needStroke(stroke);
        return typist.makeStroke(stroke);
    }

    public int typeDraft() {
        return typist.typeAll(draftSequence);
    }

    public int play() {
        if (!script.readText()) {
            return TEXT_ERROR;
        }
        int done = 0;
        while (done < script.actions.size() && script.perform(done)) {
            done++;
        }
        return done;
    }

    public int tick(int ticks) throws IllegalArgumentException {
        if (ticks < 1 || ticks > LONGEST_TICK) {
            throw new IllegalArgumentException("no such number of ticks");
        }
        return book.typing.passTicks(ticks);
    }

    public int typing(int what) {
        switch (what) {
            case 0: return book.typing.presentMode;
            case 1: return book.typing.latestCommand;
            case 2: return book.typing.deaths;
            case 3: return book.typing.strokesMade;
            case 4: return book.typing.time - book.typing.latestStrokeTime;
            default: return NONE;
        }
    }

    public int pending(int index) {
        return Sequences.strokeAt(book.typing.pendingSequence, index);
    }

    public int backTo(int index) {
        if (index < 0) {
            return NONE;
        }
        return book.typing.backModes.at(book.typing.backModes.size() - 1 - index);
    }

    public int setTimeout(int timeout) throws IllegalArgumentException {
        if (timeout < 0 || timeout >= TIMEOUTS) {
            throw new IllegalArgumentException("no such timeout");
        }
        int previous = book.typing.timeout;
        book.typing.timeout = timeout;
        book.typing.dropLatePending();
        return previous;
    }

    // Wishes

    public int wish() {
        if (draftSequence == 0L) {
            return REFUSED;
        }
        return book.wishes.push(draftSequence) ? book.wishes.size() - 1 : FULL;
    }

    public int clearWishes() {
        int wishes = book.wishes.size();
        book.wishes.clear();
        return wishes;
    }

    public int leastDrop(int mode) throws IndexOutOfBoundsException {
        needMode(mode);
        return view.fewestDropped(mode);
    }

    public int draftWish(int wish) throws IndexOutOfBoundsException {
        if (wish < 0 || wish >= book.wishes.size()) {
            throw new IndexOutOfBoundsException("no such wish");
        }
        draftSequence = book.wishes.at(wish);
        return Sequences.lengthOf(draftSequence);
    }

    // Snapshots

    public boolean saveSnapshot(int slot) {
        if (slot < 0 || slot > 1) {
            return false;
        }
        Book snapshot = slot == 0 ? firstSnapshot : secondSnapshot;
        snapshot.copyFrom(book);
        snapshot.saved = true;
        return true;
    }

    public boolean restoreSnapshot(int slot) {
        if (slot < 0 || slot > 1) {
            return false;
        }
        Book snapshot = slot == 0 ? firstSnapshot : secondSnapshot;
        if (!snapshot.saved) {
            return false;
        }
        book.copyFrom(snapshot);
        return true;
    }

    // What the arguments must be

    private void needMode(int mode) {
        if (!book.hasMode(mode)) {
            throw new IndexOutOfBoundsException("no such mode");
        }
    }

    private void needCommand(int command) {
        if (!book.hasCommand(command)) {
            throw new IndexOutOfBoundsException("no such command");
        }
    }

    private void needBinding(int binding) {
        if (!book.hasBinding(binding)) {
            throw new IndexOutOfBoundsException("no such binding");
        }
    }

    private void needLayer(int layer) {
        if (layer < 0 || layer >= book.layers.holders.size()) {
            throw new IndexOutOfBoundsException("no such layer");
        }
    }

    private static void needKey(int key) {
        if (key < 0 || key >= KEYS) {
            throw new IllegalArgumentException("no such key");
        }
    }

    private static void needStroke(int stroke) {
        if (!Sequences.isStroke(stroke)) {
            throw new IllegalArgumentException("no such stroke");
        }
    }

    /** The library that is allowed cannot tell a float's bits; this works for 1 and all above. */
    private static int bitsOf(float value) {
        float fraction = value;
        int exponent = 127;
        while (fraction >= 2.0f && exponent < 254) {
            fraction = fraction / 2.0f;
            exponent++;
        }
        return (exponent << 23) + (int) ((fraction - 1.0f) * 8388608.0f);
    }

    /**
     * Sequences as numbers: each stroke plus 1 takes nine bits, the first stroke the highest ones,
     * so that 0 is the empty sequence and numbers compare as their sequences do.
     */
    private static final class Sequences {
        static final int LONGEST = 4;
        private static final int STROKE_BITS = 9;
        private static final int STROKE_MASK = 511;
        private static final int[] KEY_COSTS = {
            1, 3, 3, 1, 2, 1, 1, 1, 2, 1, 1, 1, 3, 3, 2, 2, 2, 2, 1, 2, 2, 3, 2, 3, 2, 3
        };

        static boolean isStroke(int number) {
            return number >= 0 && number < 32 * MODIFIER_SETS && (number & 31) < KEYS;
        }

        static int lengthOf(long sequence) {
            if ((sequence & STROKE_MASK) != 0L) {
                return 4;
            }
            if ((sequence >> STROKE_BITS & STROKE_MASK) != 0L) {
                return 3;
            }
            if ((sequence >> 2 * STROKE_BITS & STROKE_MASK) != 0L) {
                return 2;
            }
            return sequence != 0L ? 1 : 0;
        }

        /** A stroke that is missing is kept as 0, which makes it NONE here. */
        static int strokeAt(long sequence, int index) {
            if (index < 0 || index >= LONGEST) {
                return NONE;
            }
            return (int) (sequence >> STROKE_BITS * (LONGEST - 1 - index) & STROKE_MASK) - 1;
        }

        static long extended(long sequence, int stroke) {
            int strokes = lengthOf(sequence);
            if (strokes >= LONGEST) {
                return sequence;
            }
            return sequence | (long) (stroke + 1) << STROKE_BITS * (LONGEST - 1 - strokes);
        }

        /** The end of the shorter one is met as a 0, and then it has not differed before. */
        static boolean clashBetween(long one, long other) {
            for (int shift = STROKE_BITS * (LONGEST - 1); shift >= 0; shift -= STROKE_BITS) {
                long stroke = one >> shift & STROKE_MASK;
                long otherStroke = other >> shift & STROKE_MASK;
                if (stroke == 0L || otherStroke == 0L) {
                    return true;
                }
                if (stroke != otherStroke) {
                    return false;
                }
            }
            return true;
        }

        static boolean isProperPrefix(long part, long whole) {
            return lengthOf(part) < lengthOf(whole) && clashBetween(part, whole);
        }

        static int sharedStrokes(long one, long other) {
            int shorter = Math.min(lengthOf(one), lengthOf(other));
            int shared = 0;
            while (shared < shorter && strokeAt(one, shared) == strokeAt(other, shared)) {
                shared++;
            }
            return shared;
        }

        static int costOf(long sequence) {
            int cost = 0;
            int strokes = lengthOf(sequence);
            for (int i = 0; i < strokes; i++) {
                cost += strokeCost(strokeAt(sequence, i));
            }
            return cost;
        }

        private static int strokeCost(int stroke) {
            int key = stroke & 31;
            int keyCost = key < KEY_COSTS.length ? KEY_COSTS[key] : 0;
            return keyCost + 2 * Integer.bitCount(stroke >> 5);
        }

        static long asNumber(long sequence) {
            return sequence >> STROKE_BITS * (LONGEST - lengthOf(sequence));
        }
    }

    /** A row of numbers that never grows beyond the room that it was made with. */
    private static final class IntRow {
        private final int[] items;
        private int used;

        IntRow(int room) {
            items = new int[Math.max(room, 0)];
            used = 0;
        }

        int size() {
            return used;
        }

        boolean isFull() {
            return used >= items.length;
        }

        int at(int index) {
            return index >= 0 && index < used && index < items.length ? items[index] : NONE;
        }

        int indexOf(int value) {
            for (int i = 0; i < used && i < items.length; i++) {
                if (items[i] == value) {
                    return i;
                }
            }
            return NONE;
        }

        int occurrences(int value) {
            int found = 0;
            for (int i = 0; i < used && i < items.length; i++) {
                if (items[i] == value) {
                    found++;
                }
            }
            return found;
        }

        boolean push(int value) {
            if (used < 0 || used >= items.length) {
                return false;
            }
            items[used] = value;
            used++;
            return true;
        }

        void put(int index, int value) {
            if (index >= 0 && index < used && index < items.length) {
                items[index] = value;
            }
        }

        void removeAt(int index) {
            if (index < 0 || index >= used) {
                return;
            }
            for (int i = index + 1; i < used && i < items.length; i++) {
                items[i - 1] = items[i];
            }
            used--;
        }

        void clear() {
            used = 0;
        }

        void refill(int value, int times) {
            used = 0;
            for (int i = 0; i < times && i < items.length; i++) {
                items[i] = value;
                used++;
            }
        }

        void copyFrom(IntRow other) {
            int length = Math.min(Math.min(other.used, other.items.length), items.length);
            for (int i = 0; i < length; i++) {
                items[i] = other.items[i];
            }
            used = length;
        }
    }

    /** A row of sequences that never grows beyond the room that it was made with. */
    private static final class SequenceRow {
        private final long[] items;
        private int used;

        SequenceRow(int room) {
            items = new long[Math.max(room, 0)];
            used = 0;
        }

        int size() {
            return used;
        }

        long at(int index) {
            return index >= 0 && index < used && index < items.length ? items[index] : 0L;
        }

        boolean hasClash(long sequence) {
            for (int i = 0; i < used && i < items.length; i++) {
                if (Sequences.clashBetween(items[i], sequence)) {
                    return true;
                }
            }
            return false;
        }

        boolean contains(long sequence) {
            for (int i = 0; i < used && i < items.length; i++) {
                if (items[i] == sequence) {
                    return true;
                }
            }
            return false;
        }

        boolean push(long value) {
            if (used < 0 || used >= items.length) {
                return false;
            }
            items[used] = value;
            used++;
            return true;
        }

        void put(int index, long value) {
            if (index >= 0 && index < used && index < items.length) {
                items[index] = value;
            }
        }

        void removeAt(int index) {
            if (index < 0 || index >= used) {
                return;
            }
            for (int i = index + 1; i < used && i < items.length; i++) {
                items[i - 1] = items[i];
            }
            used--;
        }

        void clear() {
            used = 0;
        }

        void copyFrom(SequenceRow other) {
            int length = Math.min(Math.min(other.used, other.items.length), items.length);
            for (int i = 0; i < length; i++) {
                items[i] = other.items[i];
            }
            used = length;
        }
    }

    /** The layers, and what is held: their holders and the modifiers. */
    private static final class Layers {
        final IntRow holders;
        final IntRow held;
        private final IntRow keyMaps;
        int modifiers;

        Layers() {
            holders = new IntRow(LAYERS);
            held = new IntRow(LAYERS);
            keyMaps = new IntRow(LAYERS * KEYS);
            modifiers = 0;
        }

        void reset() {
            holders.clear();
            held.clear();
            keyMaps.clear();
            modifiers = 0;
        }

        void copyFrom(Layers other) {
            holders.copyFrom(other.holders);
            held.copyFrom(other.held);
            keyMaps.copyFrom(other.keyMaps);
            modifiers = other.modifiers;
        }

        void appendLayer(int holder, IntRow keyMap) {
            holders.push(holder);
            held.push(0);
            for (int key = 0; key < KEYS; key++) {
                keyMaps.push(keyMap.at(key));
            }
        }

        int keyBehind(int layer, int key) {
            return keyMaps.at(layer * KEYS + key);
        }

        int mappedKeys(int layer) {
            int keys = 0;
            for (int key = 0; key < KEYS; key++) {
                if (keyBehind(layer, key) != NONE) {
                    keys++;
                }
            }
            return keys;
        }

        int strokeMade(int key) {
            int made = key;
            for (int layer = 0; layer < holders.size(); layer++) {
                int behind = keyBehind(layer, key);
                if (held.at(layer) == 1 && behind != NONE) {
                    made = behind;
                }
            }
            return 32 * modifiers + made;
        }

        boolean letGo(int key) {
            int layer = holders.indexOf(key);
            if (layer == NONE || held.at(layer) == 0) {
                return false;
            }
            held.put(layer, 0);
            return true;
        }
    }

    /** Where typing stands, and the time. */
    private static final class Typing {
        final IntRow backModes;
        int presentMode;
        long pendingSequence;
        int latestCommand;
        int deaths;
        int strokesMade;
        int time;
        int latestStrokeTime;
        int timeout;

        Typing() {
            backModes = new IntRow(BACK_MODES);
            latestCommand = NONE;
        }

        void reset() {
            backModes.clear();
            presentMode = 0;
            pendingSequence = 0L;
            latestCommand = NONE;
            deaths = 0;
            strokesMade = 0;
            time = 0;
            latestStrokeTime = 0;
            timeout = 0;
        }

        void copyFrom(Typing other) {
            backModes.copyFrom(other.backModes);
            presentMode = other.presentMode;
            pendingSequence = other.pendingSequence;
            latestCommand = other.latestCommand;
            deaths = other.deaths;
            strokesMade = other.strokesMade;
            time = other.time;
            latestStrokeTime = other.latestStrokeTime;
            timeout = other.timeout;
        }

        int passTicks(int ticks) {
            if (ticks > LAST_TIME - time) {
                return FULL;
            }
            time += ticks;
            dropLatePending();
            return time;
        }

        void dropLatePending() {
            if (timeout > 0 && pendingSequence != 0L && time - latestStrokeTime >= timeout) {
                pendingSequence = 0L;
                deaths++;
            }
        }

        void switchTo(int mode) {
            if (backModes.isFull()) {
                backModes.removeAt(0);
            }
            backModes.push(presentMode);
            presentMode = mode;
        }

        void comeBack() {
            int last = backModes.size() - 1;
            if (last >= 0) {
                presentMode = backModes.at(last);
                backModes.removeAt(last);
            }
        }
    }

    /** All that a snapshot keeps. */
    private static final class Book {
        final IntRow parents;
        final IntRow kinds;
        final IntRow targets;
        final IntRow uses;
        final SequenceRow reserved;
        final IntRow bindingModes;
        final IntRow bindingCommands;
        final SequenceRow bindingSequences;
        final SequenceRow wishes;
        final Layers layers;
        final Typing typing;
        /** Told of the book as a snapshot, so it is not copied. */
        boolean saved;

        Book() {
            parents = new IntRow(MODES);
            kinds = new IntRow(COMMANDS);
            targets = new IntRow(COMMANDS);
            uses = new IntRow(COMMANDS);
            reserved = new SequenceRow(RESERVED);
            bindingModes = new IntRow(BINDINGS);
            bindingCommands = new IntRow(BINDINGS);
            bindingSequences = new SequenceRow(BINDINGS);
            wishes = new SequenceRow(WISHES);
            layers = new Layers();
            typing = new Typing();
            saved = false;
            parents.push(NONE);
        }

        void reset() {
            parents.clear();
            parents.push(NONE);
            kinds.clear();
            targets.clear();
            uses.clear();
            reserved.clear();
            bindingModes.clear();
            bindingCommands.clear();
            bindingSequences.clear();
            wishes.clear();
            layers.reset();
            typing.reset();
        }

        void copyFrom(Book other) {
            parents.copyFrom(other.parents);
            kinds.copyFrom(other.kinds);
            targets.copyFrom(other.targets);
            uses.copyFrom(other.uses);
            reserved.copyFrom(other.reserved);
            bindingModes.copyFrom(other.bindingModes);
            bindingCommands.copyFrom(other.bindingCommands);
            bindingSequences.copyFrom(other.bindingSequences);
            wishes.copyFrom(other.wishes);
            layers.copyFrom(other.layers);
            typing.copyFrom(other.typing);
        }

        boolean hasMode(int mode) {
            return mode >= 0 && mode < parents.size();
        }

        boolean hasCommand(int command) {
            return command >= 0 && command < kinds.size();
        }

        boolean hasBinding(int binding) {
            return binding >= 0 && binding < bindingModes.size();
        }

        void appendCommand(int kind, int target) {
            kinds.push(kind);
            targets.push(kind == SWITCH ? target : NONE);
            uses.push(0);
        }

        void appendBinding(int mode, int command, long sequence) {
            bindingModes.push(mode);
            bindingCommands.push(command);
            bindingSequences.push(sequence);
        }

        void removeBinding(int binding) {
            bindingModes.removeAt(binding);
            bindingCommands.removeAt(binding);
            bindingSequences.removeAt(binding);
        }

        private boolean isOwnClash(int binding, int mode, long sequence) {
            return bindingModes.at(binding) == mode
                && Sequences.clashBetween(bindingSequences.at(binding), sequence);
        }

        /** The lowest binding of the mode, but for the one left out, that clashes. */
        int lowestClash(int mode, long sequence, int leftOut) {
            for (int i = 0; i < bindingModes.size(); i++) {
                if (i != leftOut && isOwnClash(i, mode, sequence)) {
                    return i;
                }
            }
            return NONE;
        }

        int ownClashes(int mode, long sequence) {
            int found = 0;
            for (int i = 0; i < bindingModes.size(); i++) {
                if (isOwnClash(i, mode, sequence)) {
                    found++;
                }
            }
            return found;
        }

        boolean isBarred(int mode, long sequence) {
            return reserved.hasClash(sequence) || lowestClash(mode, sequence, NONE) != NONE;
        }

        int placeBinding(int mode, int command, long sequence) {
            if (isBarred(mode, sequence)) {
                return CLASH;
            }
            if (bindingModes.isFull()) {
                return FULL;
            }
            appendBinding(mode, command, sequence);
            return bindingModes.size() - 1;
        }

        int placeByForce(int mode, int command, long sequence) {
            if (reserved.hasClash(sequence)) {
                return CLASH;
            }
            int removed = ownClashes(mode, sequence);
            if (removed == 0 && bindingModes.isFull()) {
                return FULL;
            }
            for (int i = bindingModes.size() - 1; i >= 0; i--) {
                if (isOwnClash(i, mode, sequence)) {
                    removeBinding(i);
                }
            }
            appendBinding(mode, command, sequence);
            return removed;
        }

        int replaceSequence(int binding, long sequence) {
            int mode = bindingModes.at(binding);
            if (reserved.hasClash(sequence) || lowestClash(mode, sequence, binding) != NONE) {
                return CLASH;
            }
            bindingSequences.put(binding, sequence);
            return Sequences.costOf(sequence);
        }

        /** Why a sequence cannot be bound in a mode: 1 to 4 as reason() tells it, 0 if it can. */
        int obstacle(int mode, long sequence) {
            if (reserved.hasClash(sequence)) {
                return 1;
            }
            int lowest = 0;
            for (int i = 0; i < bindingModes.size(); i++) {
                if (isOwnClash(i, mode, sequence)) {
                    int found = obstacleOf(bindingSequences.at(i), sequence);
                    lowest = lowest == 0 ? found : Math.min(lowest, found);
                }
            }
            return lowest;
        }

        private static int obstacleOf(long bound, long sequence) {
            if (bound == sequence) {
                return 2;
            }
            return Sequences.lengthOf(sequence) < Sequences.lengthOf(bound) ? 3 : 4;
        }

        /** Going up, the last shadow found is the first one on the way down. */
        int shadowing(int mode, int binding) {
            int home = bindingModes.at(binding);
            long sequence = bindingSequences.at(binding);
            int shadow = NONE;
            int place = mode;
            for (int i = 0; i < MODES && place != home && place != NONE; i++) {
                int found = lowestClash(place, sequence, NONE);
                if (found != NONE) {
                    shadow = found;
                }
                place = parents.at(place);
            }
            return place == home ? shadow : NONE;
        }
    }

    /** The bindings as they are seen from a mode. */
    private static final class View {
        private final Book book;
        /** For each mode how far it is above the one stood in, or NONE. */
        private final IntRow heights;
        final IntRow seen;
        private final SequenceRow barred;
        private final IntRow rivals;

        View(Book seenBook) {
            book = seenBook;
            heights = new IntRow(MODES);
            seen = new IntRow(BINDINGS);
            barred = new SequenceRow(RESERVED + BINDINGS);
            rivals = new IntRow(WISHES);
        }

        void standIn(int mode) {
            heights.refill(NONE, MODES);
            int place = mode;
            for (int height = 0; height < MODES && place != NONE; height++) {
                heights.put(place, height);
                place = book.parents.at(place);
            }
        }

        /** Whether a binding is visible in the mode stood in: no lower mode on the way shadows it. */
        boolean isSeen(int binding) {
            int height = heights.at(book.bindingModes.at(binding));
            long sequence = book.bindingSequences.at(binding);
            for (int i = 0; i < book.bindingModes.size(); i++) {
                int other = heights.at(book.bindingModes.at(i));
                if (other != NONE && other < height
                        && Sequences.clashBetween(book.bindingSequences.at(i), sequence)) {
                    return false;
                }
            }
            return height != NONE;
        }

        void gather(int mode) {
            standIn(mode);
            seen.clear();
            for (int i = 0; i < book.bindingModes.size(); i++) {
                if (isSeen(i)) {
                    seen.push(i);
                }
            }
        }

        void sortSeen() {
            for (int i = 1; i < seen.size(); i++) {
                int binding = seen.at(i);
                long sequence = book.bindingSequences.at(binding);
                int place = i;
                while (place > 0 && book.bindingSequences.at(seen.at(place - 1)) > sequence) {
                    seen.put(place, seen.at(place - 1));
                    place--;
                }
                seen.put(place, binding);
            }
        }

        int seenWith(long sequence) {
            for (int i = 0; i < book.bindingModes.size(); i++) {
                if (book.bindingSequences.at(i) == sequence && isSeen(i)) {
                    return i;
                }
            }
            return NONE;
        }

        boolean seesLonger(long sequence) {
            for (int i = 0; i < book.bindingModes.size(); i++) {
                if (Sequences.isProperPrefix(sequence, book.bindingSequences.at(i)) && isSeen(i)) {
                    return true;
                }
            }
            return false;
        }

        int countLonger(long sequence) {
            int found = 0;
            for (int i = 0; i < seen.size(); i++) {
                if (Sequences.isProperPrefix(sequence, book.bindingSequences.at(seen.at(i)))) {
                    found++;
                }
            }
            return found;
        }

        /** In ascending order a sequence shares with the one before it all prefixes met already. */
        int countPrefixes() {
            int found = 0;
            long before = 0L;
            for (int i = 0; i < seen.size(); i++) {
                long sequence = book.bindingSequences.at(seen.at(i));
                found += Sequences.lengthOf(sequence) - Sequences.sharedStrokes(before, sequence);
                before = sequence;
            }
            return found;
        }

        int cheapestSeen(int command) {
            int best = NONE;
            int bestCost = 0;
            for (int i = 0; i < seen.size(); i++) {
                int binding = seen.at(i);
                if (book.bindingCommands.at(binding) == command) {
                    int cost = Sequences.costOf(book.bindingSequences.at(binding));
                    if (best == NONE || cost < bestCost) {
                        best = binding;
                        bestCost = cost;
                    }
                }
            }
            return best;
        }

        /** Collects all sequences with which a new one of the mode must not clash. */
        void barFor(int mode, boolean shadows) {
            barred.copyFrom(book.reserved);
            for (int i = 0; i < book.bindingModes.size(); i++) {
                if (book.bindingModes.at(i) == mode) {
                    barred.push(book.bindingSequences.at(i));
                }
            }
            int parent = book.parents.at(mode);
            if (shadows || parent == NONE) {
                return;
            }
            gather(parent);
            for (int i = 0; i < seen.size(); i++) {
                barred.push(book.bindingSequences.at(seen.at(i)));
            }
        }

        /** The sequence of one stroke with at most one modifier: 0 none, 1 to 4 one of them. */
        private static long oneStroke(int modifier, int key) {
            int modifiers = modifier == 0 ? 0 : 1 << modifier - 1;
            return Sequences.extended(0L, 32 * modifiers + key);
        }

        int countFreeStrokes() {
            int free = 0;
            for (int modifier = 0; modifier <= 4; modifier++) {
                for (int key = 0; key < KEYS; key++) {
                    if (!barred.hasClash(oneStroke(modifier, key))) {
                        free++;
                    }
                }
            }
            return free;
        }

        long cheapestStroke() {
            long best = 0L;
            for (int modifier = 0; modifier <= 4; modifier++) {
                for (int key = 0; key < KEYS; key++) {
                    long stroke = oneStroke(modifier, key);
                    if (isCheaper(stroke, best) && !barred.hasClash(stroke)) {
                        best = stroke;
                    }
                }
            }
            return best;
        }

        long cheapestPair() {
            long best = 0L;
            for (int modifier = 0; modifier <= 4; modifier++) {
                for (int key = 0; key < KEYS; key++) {
                    long first = oneStroke(modifier, key);
                    // A first stroke that is barred alone bars all that begins with it.
                    if (isCheaper(first, best) && !barred.contains(first)) {
                        best = cheaperPair(first, best);
                    }
                }
            }
            return best;
        }

        /** Pairs come in ascending order, so only a cheaper one takes the place of the best. */
        private long cheaperPair(long first, long bestBefore) {
            long best = bestBefore;
            for (int modifier = 0; modifier <= 4; modifier++) {
                for (int key = 0; key < KEYS; key++) {
                    int stroke = Sequences.strokeAt(oneStroke(modifier, key), 0);
                    long pair = Sequences.extended(first, stroke);
                    if (isCheaper(pair, best) && !barred.hasClash(pair)) {
                        best = pair;
                    }
                }
            }
            return best;
        }

        private static boolean isCheaper(long sequence, long best) {
            return best == 0L || Sequences.costOf(sequence) < Sequences.costOf(best);
        }

        int fewestDropped(int mode) {
            int all = (1 << book.wishes.size()) - 1;
            int hopeless = meetRivals(mode);
            int best = all;
            for (int mask = 0; mask < all; mask++) {
                if (Integer.bitCount(mask) < Integer.bitCount(best)
                        && (hopeless & ~mask) == 0 && fitTogether(all & ~mask)) {
                    best = mask;
                }
            }
            return best;
        }

        /** Notes for each wish the others with which it clashes; tells which ones fit never. */
        private int meetRivals(int mode) {
            rivals.clear();
            int hopeless = 0;
            for (int i = 0; i < book.wishes.size(); i++) {
                long wished = book.wishes.at(i);
                int mask = 0;
                for (int k = 0; k < book.wishes.size(); k++) {
                    if (k != i && Sequences.clashBetween(wished, book.wishes.at(k))) {
                        mask |= 1 << k;
                    }
                }
                rivals.push(mask);
                if (book.isBarred(mode, wished)) {
                    hopeless |= 1 << i;
                }
            }
            return hopeless;
        }

        private boolean fitTogether(int kept) {
            for (int i = 0; i < rivals.size(); i++) {
                if ((kept >> i & 1) == 1 && (rivals.at(i) & kept) != 0) {
                    return false;
                }
            }
            return true;
        }
    }

    /** Makes strokes and does the commands to which they lead. */
    private static final class Typist {
        private final Book book;
        private final View view;

        Typist(Book typedBook, View seenView) {
            book = typedBook;
            view = seenView;
        }

        int pressKey(int key) {
            int layer = book.layers.holders.indexOf(key);
            if (layer != NONE) {
                book.layers.held.put(layer, 1);
                return NONE;
            }
            return makeStroke(book.layers.strokeMade(key));
        }

        int typeAll(long sequence) {
            int done = 0;
            int strokes = Sequences.lengthOf(sequence);
            for (int i = 0; i < strokes; i++) {
                if (makeStroke(Sequences.strokeAt(sequence, i)) != NONE) {
                    done++;
                }
            }
            return done;
        }

        /** A stroke that is dead behind others is made once more, alone. */
        int makeStroke(int stroke) {
            Typing typing = book.typing;
            boolean alive = true;
            for (int attempt = 0; attempt < 2 && alive; attempt++) {
                long sequence = Sequences.extended(typing.pendingSequence, stroke);
                alive = typing.pendingSequence != 0L;
                typing.pendingSequence = 0L;
                typing.strokesMade++;
                typing.latestStrokeTime = typing.time;
                view.standIn(typing.presentMode);
                int found = view.seenWith(sequence);
                if (found != NONE) {
                    return doCommand(book.bindingCommands.at(found));
                }
                if (view.seesLonger(sequence)) {
                    typing.pendingSequence = sequence;
                    return NONE;
                }
                typing.deaths++;
            }
            return NONE;
        }

        private int doCommand(int command) {
            book.uses.put(command, book.uses.at(command) + 1);
            book.typing.latestCommand = command;
            int kind = book.kinds.at(command);
            if (kind == SWITCH) {
                book.typing.switchTo(book.targets.at(command));
            } else if (kind == BACK) {
                book.typing.comeBack();
            }
            return command;
        }
    }

    /** The input buffer, its tokens from left to right, and the first error found in them. */
    private static final class Tokens {
        static final int END = 0;
        static final int WORD = 1;
        static final int NUMBER = 2;
        static final int SEMICOLON = 3;
        static final int NO_TOKEN = 4;
        private static final int LONGEST_WORD = 8;
        private static final int LONGEST_NUMBER = 3;

        private final byte[] text;
        int length;
        int kind;
        int start;
        private int end;
        /** The number or key that was taken last. */
        int taken;
        /** The sequence that was taken last. */
        long takenSequence;
        int faultCode;
        int faultPosition;

        Tokens() {
            text = new byte[TEXT_BYTES];
            faultPosition = NONE;
        }

        void appendFour(int word) {
            for (int shift = 24; shift >= 0; shift -= 8) {
                if (length >= 0 && length < text.length) {
                    text[length] = (byte) (word >> shift);
                    length++;
                }
            }
        }

        void begin() {
            faultCode = 0;
            faultPosition = NONE;
            end = 0;
            advance();
        }

        /** Tells the answer of all that read: it went wrong. */
        boolean fail(int code, int position) {
            faultCode = code;
            faultPosition = position;
            return false;
        }

        private int byteAt(int index) {
            return index >= 0 && index < length && index < text.length ? text[index] & 255 : NONE;
        }

        private static int sortOf(int character) {
            if (character >= 'a' && character <= 'z' || character >= 'A' && character <= 'Z') {
                return WORD;
            }
            if (character >= '0' && character <= '9') {
                return NUMBER;
            }
            return character == ';' ? SEMICOLON : NO_TOKEN;
        }

        /** What is no token is not told here: it is an error only when its turn comes. */
        void advance() {
            start = end;
            while (start < length && (byteAt(start) == ' ' || byteAt(start) == '\n')) {
                start++;
            }
            end = start;
            if (start >= length) {
                kind = END;
                return;
            }
            kind = sortOf(byteAt(start));
            end++;
            if (kind != WORD && kind != NUMBER) {
                return;
            }
            while (end < length && sortOf(byteAt(end)) == kind) {
                end++;
            }
            if (end - start > (kind == WORD ? LONGEST_WORD : LONGEST_NUMBER)) {
                kind = NO_TOKEN;
            }
        }

        boolean isWord(String name) {
            if (kind != WORD || end - start != name.length()) {
                return false;
            }
            for (int i = 0; i < name.length(); i++) {
                if (byteAt(start + i) != name.charAt(i)) {
                    return false;
                }
            }
            return true;
        }

        boolean takeSemicolon() {
            if (kind != SEMICOLON) {
                return fail(SYNTAX_ERROR, start);
            }
            advance();
            return true;
        }

        boolean takeNumber(int bound) {
            if (kind != NUMBER) {
                return fail(SYNTAX_ERROR, start);
            }
            int value = 0;
            for (int i = start; i < end; i++) {
                value = 10 * value + byteAt(i) - '0';
            }
            if (value >= bound) {
                return fail(RANGE_ERROR, start);
            }
            taken = value;
            advance();
            return true;
        }

        boolean takeKey() {
            int key = keyAt(start);
            if (kind != WORD || end - start != 1 || key == NONE) {
                return fail(SYNTAX_ERROR, start);
            }
            taken = key;
            advance();
            return true;
        }

        /** One to four strokes and the semicolon behind them. */
        boolean takeSequence() {
            long sequence = 0L;
            int strokes = 0;
            while (strokes <= Sequences.LONGEST && (strokes == 0 || kind != SEMICOLON)) {
                int stroke = strokeOfWord();
                if (stroke == NONE) {
                    return fail(SYNTAX_ERROR, start);
                }
                if (strokes == Sequences.LONGEST) {
                    return fail(LIMIT_ERROR, start);
                }
                sequence = Sequences.extended(sequence, stroke);
                strokes++;
                advance();
            }
            takenSequence = sequence;
            return takeSemicolon();
        }

        private int keyAt(int index) {
            int character = byteAt(index);
            return character >= 'a' && character <= 'z' ? character - 'a' : NONE;
        }

        private int strokeOfWord() {
            int key = keyAt(end - 1);
            if (kind != WORD || key == NONE) {
                return NONE;
            }
            int modifiers = 0;
            for (int i = start; i < end - 1; i++) {
                int modifier = modifierOf(byteAt(i));
                if (modifier == 0 || (modifiers & modifier) != 0) {
                    return NONE;
                }
                modifiers |= modifier;
            }
            return 32 * modifiers + key;
        }

        private static int modifierOf(int character) {
            switch (character) {
                case 'C': return 1;
                case 'S': return 2;
                case 'A': return 4;
                case 'M': return 8;
                default: return 0;
            }
        }
    }

    /** Reads the text of a whole book. */
    private static final class Reader {
        private final Tokens tokens;
        private final Book book;
        private final IntRow keyMap;

        Reader(Tokens readTokens, Book filledBook) {
            tokens = readTokens;
            book = filledBook;
            keyMap = new IntRow(KEYS);
        }

        boolean readText() {
            book.reset();
            tokens.begin();
            for (int i = 0; i < TEXT_BYTES && tokens.kind != Tokens.END; i++) {
                if (!readStatement()) {
                    return false;
                }
            }
            for (int i = 0; i < book.targets.size(); i++) {
                if (book.targets.at(i) >= book.parents.size()) {
                    return tokens.fail(MISSING_MODE_ERROR, tokens.length);
                }
            }
            return true;
        }

        private boolean readStatement() {
            if (tokens.isWord("mode")) {
                return readMode();
            }
            if (tokens.isWord("plain")) {
                return readCommand(0);
            }
            if (tokens.isWord("switch")) {
                return readCommand(SWITCH);
            }
            if (tokens.isWord("back")) {
                return readCommand(BACK);
            }
            if (tokens.isWord("reserve")) {
                return readReserved();
            }
            if (tokens.isWord("bind")) {
                return readBinding();
            }
            if (tokens.isWord("layer")) {
                return readLayer();
            }
            if (tokens.isWord("timeout")) {
                return readTimeout();
            }
            return tokens.fail(SYNTAX_ERROR, tokens.start);
        }

        private boolean readMode() {
            if (book.parents.isFull()) {
                return tokens.fail(LIMIT_ERROR, tokens.start);
            }
            tokens.advance();
            if (!tokens.takeNumber(book.parents.size()) || !tokens.takeSemicolon()) {
                return false;
            }
            return book.parents.push(tokens.taken);
        }

        private boolean readCommand(int kind) {
            if (book.kinds.isFull()) {
                return tokens.fail(LIMIT_ERROR, tokens.start);
            }
            tokens.advance();
            if (kind == SWITCH && !tokens.takeNumber(MODES)) {
                return false;
            }
            if (!tokens.takeSemicolon()) {
                return false;
            }
            book.appendCommand(kind, tokens.taken);
            return true;
        }

        private boolean readReserved() {
            int first = tokens.start;
            if (book.reserved.size() >= RESERVED) {
                return tokens.fail(LIMIT_ERROR, first);
            }
            tokens.advance();
            if (!tokens.takeSequence()) {
                return false;
            }
            if (book.bindingSequences.hasClash(tokens.takenSequence)) {
                return tokens.fail(CLASH_ERROR, first);
            }
            return book.reserved.push(tokens.takenSequence);
        }

        private boolean readBinding() {
            int first = tokens.start;
            if (book.bindingModes.isFull()) {
                return tokens.fail(LIMIT_ERROR, first);
            }
            tokens.advance();
            if (!tokens.takeNumber(book.parents.size())) {
                return false;
            }
            int mode = tokens.taken;
            if (!tokens.takeNumber(book.kinds.size())) {
                return false;
            }
            int command = tokens.taken;
            if (!tokens.takeSequence()) {
                return false;
            }
            if (book.isBarred(mode, tokens.takenSequence)) {
                return tokens.fail(CLASH_ERROR, first);
            }
            book.appendBinding(mode, command, tokens.takenSequence);
            return true;
        }

        private boolean readLayer() {
            int first = tokens.start;
            if (book.layers.holders.isFull()) {
                return tokens.fail(LIMIT_ERROR, first);
            }
            tokens.advance();
            if (!tokens.takeKey()) {
                return false;
            }
            int holder = tokens.taken;
            boolean twice = false;
            keyMap.refill(NONE, KEYS);
            for (int i = 0; i < TEXT_BYTES && tokens.kind != Tokens.SEMICOLON; i++) {
                if (!tokens.takeKey()) {
                    return false;
                }
                int key = tokens.taken;
                if (!tokens.takeKey()) {
                    return false;
                }
                twice = twice || keyMap.at(key) != NONE;
                keyMap.put(key, tokens.taken);
            }
            if (!tokens.takeSemicolon()) {
                return false;
            }
            if (twice || book.layers.holders.indexOf(holder) != NONE) {
                return tokens.fail(CLASH_ERROR, first);
            }
            book.layers.appendLayer(holder, keyMap);
            return true;
        }

        private boolean readTimeout() {
            tokens.advance();
            if (!tokens.takeNumber(TIMEOUTS) || !tokens.takeSemicolon()) {
                return false;
            }
            book.typing.timeout = tokens.taken;
            return true;
        }
    }

    /** A row of commands that is read as a whole before any of them is done. */
    private static final class Script {
        private static final int PRESS = 0;
        private static final int RELEASE = 1;
        private static final int HOLD = 2;
        private static final int TICK = 3;
        private static final int UNBIND = 4;
        private static final int TYPE = 5;
        private static final int BIND = 6;
        private static final int FORCE = 7;
        private static final int NUMBERS = 1000;

        private final Tokens tokens;
        private final Book book;
        private final Typist typist;
        final IntRow actions;
        private final IntRow firsts;
        private final IntRow seconds;
        private final SequenceRow sequences;

        Script(Tokens readTokens, Book playedBook, Typist playingTypist) {
            tokens = readTokens;
            book = playedBook;
            typist = playingTypist;
            actions = new IntRow(PLAY_COMMANDS);
            firsts = new IntRow(PLAY_COMMANDS);
            seconds = new IntRow(PLAY_COMMANDS);
            sequences = new SequenceRow(PLAY_COMMANDS);
        }

        boolean readText() {
            actions.clear();
            firsts.clear();
            seconds.clear();
            sequences.clear();
            tokens.begin();
            for (int i = 0; i <= PLAY_COMMANDS && tokens.kind != Tokens.END; i++) {
                if (!readOne()) {
                    return false;
                }
            }
            return true;
        }

        private int actionOfWord() {
            if (tokens.isWord("press")) {
                return PRESS;
            }
            if (tokens.isWord("release")) {
                return RELEASE;
            }
            if (tokens.isWord("hold")) {
                return HOLD;
            }
            if (tokens.isWord("tick")) {
                return TICK;
            }
            if (tokens.isWord("unbind")) {
                return UNBIND;
            }
            if (tokens.isWord("type")) {
                return TYPE;
            }
            if (tokens.isWord("bind")) {
                return BIND;
            }
            return tokens.isWord("force") ? FORCE : NONE;
        }

        private boolean readOne() {
            int action = actionOfWord();
            if (action == NONE) {
                return tokens.fail(SYNTAX_ERROR, tokens.start);
            }
            if (actions.isFull()) {
                return tokens.fail(LIMIT_ERROR, tokens.start);
            }
            tokens.advance();
            switch (action) {
                case PRESS:
                case RELEASE:
                    return tokens.takeKey() && tokens.takeSemicolon()
                        && keep(action, tokens.taken, 0, 0L);
                case HOLD:
                case TICK:
                case UNBIND:
                    return tokens.takeNumber(NUMBERS) && tokens.takeSemicolon()
                        && keep(action, tokens.taken, 0, 0L);
                case TYPE:
                    return tokens.takeSequence() && keep(action, 0, 0, tokens.takenSequence);
                default:
                    return readBinding(action);
            }
        }

        private boolean readBinding(int action) {
            if (!tokens.takeNumber(NUMBERS)) {
                return false;
            }
            int mode = tokens.taken;
            if (!tokens.takeNumber(NUMBERS)) {
                return false;
            }
            int command = tokens.taken;
            return tokens.takeSequence() && keep(action, mode, command, tokens.takenSequence);
        }

        private boolean keep(int action, int first, int second, long sequence) {
            return actions.push(action) && firsts.push(first) && seconds.push(second)
                && sequences.push(sequence);
        }

        /** Does one command of the row; false if it is not possible. */
        boolean perform(int index) {
            int first = firsts.at(index);
            long sequence = sequences.at(index);
            switch (actions.at(index)) {
                case PRESS:
                    typist.pressKey(first);
                    return true;
                case RELEASE:
                    return book.layers.letGo(first);
                case HOLD:
                    return holdAll(first);
                case TICK:
                    return first >= 1 && book.typing.passTicks(first) != FULL;
                case UNBIND:
                    return dropBinding(first);
                case TYPE:
                    typist.typeAll(sequence);
                    return true;
                case BIND:
                    return hasBoth(first, seconds.at(index))
                        && book.placeBinding(first, seconds.at(index), sequence) >= 0;
                case FORCE:
                    return hasBoth(first, seconds.at(index))
                        && book.placeByForce(first, seconds.at(index), sequence) >= 0;
                default:
                    return false;
            }
        }

        private boolean hasBoth(int mode, int command) {
            return book.hasMode(mode) && book.hasCommand(command);
        }

        private boolean holdAll(int modifiers) {
            if (modifiers >= MODIFIER_SETS) {
                return false;
            }
            book.layers.modifiers = modifiers;
            return true;
        }

        private boolean dropBinding(int binding) {
            if (!book.hasBinding(binding)) {
                return false;
            }
            book.removeBinding(binding);
            return true;
        }
    }
}
