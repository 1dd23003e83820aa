import java.util.ArrayList;
import java.util.Arrays;
import java.util.HashSet;
import java.util.LinkedHashMap;
import java.util.List;
import java.util.Map;
import java.util.Set;
import java.util.TreeMap;
import java.util.regex.Matcher;
import java.util.regex.Pattern;

/**
 * The document once more, written with lists and the whole library and without any thought of
 * speed, so that runs can be compared. It shares no code with the program.
 */
final class NaiveBook {
    record Binding(int mode, int command, List<Integer> sequence) {
    }

    record Command(int kind, int target) {
    }

    /** All that a snapshot keeps. */
    static final class State {
        List<Integer> parents = new ArrayList<>(List.of(-1));
        List<Command> commands = new ArrayList<>();
        List<Integer> uses = new ArrayList<>();
        List<List<Integer>> reserved = new ArrayList<>();
        List<Binding> bindings = new ArrayList<>();
        Map<Integer, Map<Integer, Integer>> layers = new LinkedHashMap<>();
        Set<Integer> held = new HashSet<>();
        List<List<Integer>> wishes = new ArrayList<>();
        List<Integer> back = new ArrayList<>();
        List<Integer> pending = new ArrayList<>();
        int modifiers;
        int mode;
        int latest = -1;
        int dead;
        int made;
        int time;
        int latestTime;
        int timeout;

        State copy() {
            State c = new State();
            c.parents = new ArrayList<>(parents);
            c.commands = new ArrayList<>(commands);
            c.uses = new ArrayList<>(uses);
            c.reserved = new ArrayList<>(reserved);
            c.bindings = new ArrayList<>(bindings);
            c.layers = new LinkedHashMap<>(layers);
            c.held = new HashSet<>(held);
            c.wishes = new ArrayList<>(wishes);
            c.back = new ArrayList<>(back);
            c.pending = new ArrayList<>(pending);
            c.modifiers = modifiers;
            c.mode = mode;
            c.latest = latest;
            c.dead = dead;
            c.made = made;
            c.time = time;
            c.latestTime = latestTime;
            c.timeout = timeout;
            return c;
        }
    }

    private static final class TextFault extends RuntimeException {
        private static final long serialVersionUID = 1L;
        final int code;
        final int position;

        TextFault(int faultCode, int faultPosition) {
            code = faultCode;
            position = faultPosition;
        }
    }

    State s = new State();
    private final State[] slots = new State[2];
    private final StringBuilder input = new StringBuilder();
    private List<Integer> draft = new ArrayList<>();
    private int errorCode;
    private int errorPosition = -1;

    private static int index(boolean right) {
        if (!right) {
            throw new IndexOutOfBoundsException();
        }
        return 0;
    }

    private static void argument(boolean right) {
        if (!right) {
            throw new IllegalArgumentException();
        }
    }

    private void mode(int m) {
        index(0 <= m && m < s.parents.size());
    }

    private void command(int c) {
        index(0 <= c && c < s.commands.size());
    }

    private void binding(int b) {
        index(0 <= b && b < s.bindings.size());
    }

    private static boolean isStroke(int stroke) {
        return stroke >= 0 && stroke <= 511 && stroke % 32 < 26;
    }

    static boolean begins(List<Integer> whole, List<Integer> part) {
        return whole.size() >= part.size() && whole.subList(0, part.size()).equals(part);
    }

    static boolean clash(List<Integer> a, List<Integer> b) {
        return begins(a, b) || begins(b, a);
    }

    static int cost(List<Integer> sequence) {
        int cost = 0;
        for (int stroke : sequence) {
            char key = (char) ('a' + stroke % 32);
            cost += "asdfghjkl".indexOf(key) >= 0 ? 1 : "qwertyuiop".indexOf(key) >= 0 ? 2 : 3;
            for (int set = stroke / 32; set > 0; set /= 2) {
                cost += 2 * (set % 2);
            }
        }
        return cost;
    }

    static int compare(List<Integer> a, List<Integer> b) {
        return Arrays.compare(a.stream().mapToInt(i -> i).toArray(), b.stream().mapToInt(i -> i).toArray());
    }

    List<Integer> own(int m) {
        List<Integer> found = new ArrayList<>();
        for (int b = 0; b < s.bindings.size(); b++) {
            if (s.bindings.get(b).mode == m) {
                found.add(b);
            }
        }
        return found;
    }

    /** As the document says it: the own ones, and those of the parent that clash with none of them. */
    List<Integer> visibleOf(int m) {
        List<Integer> own = own(m);
        List<Integer> found = new ArrayList<>(own);
        if (m > 0) {
            for (int b : visibleOf(s.parents.get(m))) {
                if (own.stream().noneMatch(o -> clash(sequence(o), sequence(b)))) {
                    found.add(b);
                }
            }
        }
        found.sort((a, b) -> compare(sequence(a), sequence(b)));
        return found;
    }

    List<Integer> sequence(int b) {
        return s.bindings.get(b).sequence;
    }

    private boolean clashesReserved(List<Integer> q) {
        return s.reserved.stream().anyMatch(r -> clash(r, q));
    }

    private List<Integer> ownClashes(int m, List<Integer> q) {
        List<Integer> found = own(m);
        found.removeIf(b -> !clash(sequence(b), q));
        return found;
    }

    private boolean canBeBound(int m, List<Integer> q) {
        return !clashesReserved(q) && ownClashes(m, q).isEmpty();
    }

    int appendInput(int... words) {
        if (input.length() + 20 > 1600) {
            return -1;
        }
        for (int word : words) {
            for (int shift = 24; shift >= 0; shift -= 8) {
                input.append((char) (word >>> shift & 255));
            }
        }
        return input.length();
    }

    int truncateInput(int length) {
        if (length < 0 || length > input.length()) {
            return -1;
        }
        input.setLength(length);
        return length;
    }

    // Reading

    private record Token(char kind, String text, int position) {
    }

    private List<Token> row;
    private int at;

    private void cut(String text) {
        row = new ArrayList<>();
        at = 0;
        Matcher m = Pattern.compile("([a-zA-Z]+)|([0-9]+)|(;)|([ \n])|(?s:.)").matcher(text);
        while (m.find()) {
            String one = m.group();
            if (m.group(1) != null) {
                row.add(new Token(one.length() > 8 ? '?' : 'w', one, m.start()));
            } else if (m.group(2) != null) {
                row.add(new Token(one.length() > 3 ? '?' : 'n', one, m.start()));
            } else if (m.group(3) != null) {
                row.add(new Token(';', one, m.start()));
            } else if (m.group(4) == null) {
                row.add(new Token('?', one, m.start()));
            }
        }
        row.add(new Token('$', "", text.length()));
    }

    private Token next(boolean right) {
        if (!right) {
            throw new TextFault(1, row.get(at).position);
        }
        return row.get(at++);
    }

    private boolean is(char kind, String pattern) {
        return row.get(at).kind == kind && row.get(at).text.matches(pattern);
    }

    private int number(int bound) {
        Token token = next(is('n', ".*"));
        int value = Integer.parseInt(token.text);
        if (value >= bound) {
            throw new TextFault(2, token.position);
        }
        return value;
    }

    private int key() {
        return next(is('w', "[a-z]")).text.charAt(0) - 'a';
    }

    private void semicolon() {
        next(is(';', ".*"));
    }

    private List<Integer> strokes() {
        List<Integer> q = new ArrayList<>();
        do {
            Token token = next(is('w', "(?!.*(.).*\\1)[CSAM]*[a-z]"));
            if (q.size() == 4) {
                throw new TextFault(3, token.position);
            }
            int set = 0;
            for (char one : token.text.substring(0, token.text.length() - 1).toCharArray()) {
                set += one == 'C' ? 1 : one == 'S' ? 2 : one == 'A' ? 4 : 8;
            }
            q.add(32 * set + token.text.charAt(token.text.length() - 1) - 'a');
        } while (!is(';', ".*"));
        return q;
    }

    private static void limit(boolean right, Token first) {
        if (!right) {
            throw new TextFault(3, first.position);
        }
    }

    private static void noClash(boolean right, Token first) {
        if (!right) {
            throw new TextFault(4, first.position);
        }
    }

    private void statement() {
        Token first = next(is('w', "mode|plain|switch|back|reserve|bind|layer|timeout"));
        switch (first.text) {
            case "mode" -> {
                limit(s.parents.size() < 6, first);
                int parent = number(s.parents.size());
                semicolon();
                s.parents.add(parent);
            }
            case "plain", "back", "switch" -> {
                limit(s.commands.size() < 40, first);
                int kind = List.of("plain", "switch", "back").indexOf(first.text);
                int target = kind == 1 ? number(6) : -1;
                semicolon();
                s.commands.add(new Command(kind, target));
                s.uses.add(0);
            }
            case "reserve" -> {
                limit(s.reserved.size() < 6, first);
                List<Integer> q = strokes();
                semicolon();
                noClash(s.bindings.stream().noneMatch(b -> clash(b.sequence, q)), first);
                s.reserved.add(q);
            }
            case "bind" -> {
                limit(s.bindings.size() < 80, first);
                int m = number(s.parents.size());
                int c = number(s.commands.size());
                List<Integer> q = strokes();
                semicolon();
                noClash(canBeBound(m, q), first);
                s.bindings.add(new Binding(m, c, q));
            }
            case "layer" -> {
                limit(s.layers.size() < 4, first);
                int holder = key();
                boolean right = !s.layers.containsKey(holder);
                Map<Integer, Integer> keys = new TreeMap<>();
                while (!is(';', ".*")) {
                    int from = key();
                    right &= keys.put(from, key()) == null;
                }
                semicolon();
                noClash(right, first);
                s.layers.put(holder, keys);
            }
            default -> {
                int timeout = number(1000);
                semicolon();
                s.timeout = timeout;
            }
        }
    }

    int load() {
        State before = s;
        s = new State();
        String text = input.toString();
        input.setLength(0);
        errorCode = 0;
        errorPosition = -1;
        try {
            cut(text);
            while (!is('$', ".*")) {
                statement();
            }
            if (s.commands.stream().anyMatch(c -> c.target >= s.parents.size())) {
                throw new TextFault(5, text.length());
            }
            slots[0] = null;
            slots[1] = null;
            return s.bindings.size();
        } catch (TextFault fault) {
            s = before;
            errorCode = fault.code;
            errorPosition = fault.position;
            return -3;
        }
    }

    private interface Step {
        boolean done();
    }

    private Step step() {
        Token first = next(is('w', "press|release|hold|tick|unbind|type|bind|force"));
        switch (first.text) {
            case "press": {
                int k = key();
                return () -> press(k) >= -1;
            }
            case "release": {
                int k = key();
                return () -> release(k);
            }
            case "hold": {
                int n = number(1000);
                return () -> hold(n) >= 0;
            }
            case "tick": {
                int n = number(1000);
                return () -> tick(n) >= 0;
            }
            case "unbind": {
                int n = number(1000);
                return () -> unbind(n) >= 0;
            }
            case "type": {
                List<Integer> q = strokes();
                return () -> typeAll(q) >= 0;
            }
            default: {
                int m = number(1000);
                int c = number(1000);
                List<Integer> q = strokes();
                return first.text.equals("bind") ? () -> bind(m, c, q) >= 0 : () -> force(m, c, q) >= 0;
            }
        }
    }

    int play() {
        errorCode = 0;
        errorPosition = -1;
        List<Step> steps = new ArrayList<>();
        try {
            cut(input.toString());
            while (!is('$', ".*")) {
                Token first = row.get(at);
                Step one = null;
                if (steps.size() == 40 && is('w', "press|release|hold|tick|unbind|type|bind|force")) {
                    throw new TextFault(3, first.position);
                }
                one = step();
                semicolon();
                steps.add(one);
            }
        } catch (TextFault fault) {
            errorCode = fault.code;
            errorPosition = fault.position;
            return -3;
        }
        int done = 0;
        for (Step one : steps) {
            try {
                if (!one.done()) {
                    break;
                }
            } catch (IllegalArgumentException | IndexOutOfBoundsException e) {
                break;
            }
            done++;
        }
        return done;
    }

    int errorCode() {
        return errorCode;
    }

    int errorPosition() {
        return errorPosition;
    }

    int count(int what) {
        List<Integer> all = List.of(s.parents.size(), s.layers.size(), s.commands.size(), s.bindings.size(),
            s.reserved.size(), s.pending.size(), s.time, s.back.size(), s.wishes.size(), s.timeout);
        return what == 10 ? draft.size() : pick(all, what);
    }

    private static int pick(List<Integer> all, int i) {
        return i < 0 || i >= all.size() ? -1 : all.get(i);
    }

    int draft(int stroke) {
        argument(isStroke(stroke));
        if (draft.size() == 4) {
            return -2;
        }
        draft.add(stroke);
        return draft.size();
    }

    int clearDraft() {
        int n = draft.size();
        draft = new ArrayList<>();
        return n;
    }

    int draftStroke(int i) {
        return pick(draft, i);
    }

    int draftFrom(int b) {
        binding(b);
        draft = new ArrayList<>(sequence(b));
        return draft.size();
    }

    int addMode(int parent) {
        mode(parent);
        if (s.parents.size() == 6) {
            return -2;
        }
        s.parents.add(parent);
        return s.parents.size() - 1;
    }

    int parentOf(int m) {
        mode(m);
        return s.parents.get(m);
    }

    int addCommand(int kind, int target) {
        argument(kind >= 0 && kind <= 2);
        if (kind == 1) {
            mode(target);
        }
        if (s.commands.size() == 40) {
            return -2;
        }
        s.commands.add(new Command(kind, kind == 1 ? target : -1));
        s.uses.add(0);
        return s.commands.size() - 1;
    }

    int command(int c, int what) {
        command(c);
        int bound = (int) s.bindings.stream().filter(b -> b.command == c).count();
        return pick(List.of(s.commands.get(c).kind, s.commands.get(c).target, s.uses.get(c), bound), what);
    }

    int reserve() {
        if (draft.isEmpty()) {
            return -4;
        }
        if (s.bindings.stream().anyMatch(b -> clash(b.sequence, draft))) {
            return -1000;
        }
        if (s.reserved.size() == 6) {
            return -2;
        }
        s.reserved.add(List.copyOf(draft));
        return s.reserved.size() - 1;
    }

    int reservedStroke(int r, int i) {
        index(0 <= r && r < s.reserved.size());
        return pick(s.reserved.get(r), i);
    }

    int bind(int m, int c) {
        return bind(m, c, draft);
    }

    private int bind(int m, int c, List<Integer> q) {
        mode(m);
        command(c);
        if (q.isEmpty()) {
            return -4;
        }
        if (!canBeBound(m, q)) {
            return -1000;
        }
        if (s.bindings.size() == 80) {
            return -2;
        }
        s.bindings.add(new Binding(m, c, List.copyOf(q)));
        return s.bindings.size() - 1;
    }

    int force(int m, int c) {
        return force(m, c, draft);
    }

    private int force(int m, int c, List<Integer> q) {
        mode(m);
        command(c);
        if (q.isEmpty()) {
            return -4;
        }
        if (clashesReserved(q)) {
            return -1000;
        }
        int removed = ownClashes(m, q).size();
        if (s.bindings.size() - removed + 1 > 80) {
            return -2;
        }
        s.bindings.removeIf(b -> b.mode == m && clash(b.sequence, q));
        s.bindings.add(new Binding(m, c, List.copyOf(q)));
        return removed;
    }

    int move(int b) {
        binding(b);
        if (draft.isEmpty()) {
            return -4;
        }
        Binding old = s.bindings.get(b);
        List<Integer> others = ownClashes(old.mode, draft);
        others.remove((Integer) b);
        if (clashesReserved(draft) || !others.isEmpty()) {
            return -1000;
        }
        s.bindings.set(b, new Binding(old.mode, old.command, List.copyOf(draft)));
        return cost(draft);
    }

    int unbind(int b) {
        binding(b);
        s.bindings.remove(b);
        return s.bindings.size();
    }

    int binding(int b, int what) {
        binding(b);
        Binding one = s.bindings.get(b);
        return pick(List.of(one.mode, one.command, one.sequence.size(), cost(one.sequence)), what);
    }

    int bindingStroke(int b, int i) {
        binding(b);
        return pick(sequence(b), i);
    }

    int clashing(int m) {
        mode(m);
        return draft.isEmpty() ? -4 : pick(ownClashes(m, draft), 0);
    }

    int clashes(int m) {
        mode(m);
        return draft.isEmpty() ? -4 : ownClashes(m, draft).size();
    }

    int reason(int m) {
        mode(m);
        if (draft.isEmpty()) {
            return -4;
        }
        if (clashesReserved(draft)) {
            return 1;
        }
        List<Integer> all = ownClashes(m, draft);
        if (all.stream().anyMatch(b -> sequence(b).equals(draft))) {
            return 2;
        }
        if (all.stream().anyMatch(b -> begins(sequence(b), draft))) {
            return 3;
        }
        return all.isEmpty() ? 0 : 4;
    }

    int look(int m) {
        mode(m);
        return draft.isEmpty() ? -4 : visibleWith(m, draft);
    }

    private int visibleWith(int m, List<Integer> q) {
        return visibleOf(m).stream().filter(b -> sequence(b).equals(q)).findFirst().orElse(-1);
    }

    private int longer(int m, List<Integer> q) {
        return (int) visibleOf(m).stream().filter(b -> begins(sequence(b), q) && sequence(b).size() > q.size()).count();
    }

    int continuations(int m) {
        mode(m);
        return longer(m, draft);
    }

    int visible(int m) {
        mode(m);
        return visibleOf(m).size();
    }

    int visibleAt(int m, int i) {
        mode(m);
        return pick(visibleOf(m), i);
    }

    int shadowOf(int m, int b) {
        mode(m);
        binding(b);
        List<Integer> way = new ArrayList<>();
        for (int place = m; place != -1; place = s.parents.get(place)) {
            way.add(0, place);
        }
        int home = way.indexOf(s.bindings.get(b).mode);
        if (home < 0) {
            return -1;
        }
        for (int place : way.subList(home, way.size())) {
            if (!visibleOf(place).contains(b)) {
                return ownClashes(place, sequence(b)).get(0);
            }
        }
        return -1;
    }

    int reachable(int m) {
        mode(m);
        return (int) visibleOf(m).stream().map(b -> s.bindings.get(b).command).distinct().count();
    }

    int unreachable() {
        Set<Integer> reached = new HashSet<>();
        for (int m = 0; m < s.parents.size(); m++) {
            visibleOf(m).forEach(b -> reached.add(s.bindings.get(b).command));
        }
        return s.commands.size() - reached.size();
    }

    int prefixes(int m) {
        mode(m);
        Set<List<Integer>> found = new HashSet<>();
        for (int b : visibleOf(m)) {
            for (int n = 1; n <= sequence(b).size(); n++) {
                found.add(sequence(b).subList(0, n));
            }
        }
        return found.size();
    }

    int bestFor(int m, int c) {
        mode(m);
        command(c);
        int best = -1;
        for (int b = 0; b < s.bindings.size(); b++) {
            if (s.bindings.get(b).command == c && visibleOf(m).contains(b)
                    && (best == -1 || cost(sequence(b)) < cost(sequence(best)))) {
                best = b;
            }
        }
        return best;
    }

    int clashPairs(int m, int other) {
        mode(m);
        mode(other);
        argument(m != other);
        return own(m).stream().mapToInt(b -> ownClashes(other, sequence(b)).size()).sum();
    }

    private static List<Integer> simpleStrokes() {
        List<Integer> all = new ArrayList<>();
        for (int stroke = 0; stroke < 512; stroke++) {
            if (isStroke(stroke) && Integer.bitCount(stroke / 32) <= 1) {
                all.add(stroke);
            }
        }
        return all;
    }

    int freeStrokes(int m) {
        mode(m);
        return (int) simpleStrokes().stream().filter(one -> canBeBound(m, List.of(one))).count();
    }

    int cheapest(int m, int length, boolean shadows) {
        mode(m);
        argument(length == 1 || length == 2);
        List<List<Integer>> all = new ArrayList<>();
        for (int one : simpleStrokes()) {
            if (length == 1) {
                all.add(List.of(one));
            } else {
                simpleStrokes().forEach(two -> all.add(List.of(one, two)));
            }
        }
        all.sort((a, b) -> cost(a) != cost(b) ? cost(a) - cost(b) : compare(a, b));
        List<Integer> above = shadows || m == 0 ? List.of() : visibleOf(s.parents.get(m));
        for (List<Integer> q : all) {
            if (canBeBound(m, q) && above.stream().noneMatch(b -> clash(sequence(b), q))) {
                draft = new ArrayList<>(q);
                return cost(q);
            }
        }
        return -1;
    }

    int draftCost() {
        return cost(draft);
    }

    long effort(int m) {
        mode(m);
        long sum = 0;
        for (int c = 0; c < s.commands.size(); c++) {
            int b = bestFor(m, c);
            sum += b == -1 ? 0 : (long) cost(sequence(b)) * s.uses.get(c);
        }
        return sum;
    }

    int meanCostBits(int m) {
        mode(m);
        List<Integer> all = visibleOf(m);
        if (all.isEmpty()) {
            throw new ArithmeticException();
        }
        int sum = all.stream().mapToInt(b -> cost(sequence(b))).sum();
        return Float.floatToIntBits((float) sum / (float) all.size());
    }

    int packed(int b, int kind) {
        binding(b);
        argument(kind >= 0 && kind <= 3);
        long n = 0;
        for (int stroke : sequence(b)) {
            n = 512 * n + stroke + 1;
        }
        return kind == 0 ? (byte) n : kind == 1 ? (short) n : kind == 2 ? (char) n : (int) n;
    }

    int common(int one, int other) {
        binding(one);
        binding(other);
        int n = 0;
        while (n < sequence(one).size() && n < sequence(other).size()
                && sequence(one).get(n).equals(sequence(other).get(n))) {
            n++;
        }
        return n;
    }

    int leadingSwitches() {
        int n = 0;
        for (Binding b : s.bindings) {
            if (s.commands.get(b.command).kind != 1) {
                break;
            }
            n++;
        }
        return n;
    }

    int layer(int l, int what) {
        index(0 <= l && l < s.layers.size());
        int holder = List.copyOf(s.layers.keySet()).get(l);
        return pick(List.of(holder, s.layers.get(holder).size(), s.held.contains(holder) ? 1 : 0), what);
    }

    int mapped(int l, int key) {
        index(0 <= l && l < s.layers.size());
        argument(key >= 0 && key < 26);
        return List.copyOf(s.layers.values()).get(l).getOrDefault(key, -1);
    }

    int hold(int modifiers) {
        argument(modifiers >= 0 && modifiers < 16);
        int before = s.modifiers;
        s.modifiers = modifiers;
        return before;
    }

    int strokeOf(int key) {
        argument(key >= 0 && key < 26);
        if (s.layers.containsKey(key)) {
            return -1;
        }
        int made = key;
        for (Map.Entry<Integer, Map<Integer, Integer>> one : s.layers.entrySet()) {
            if (s.held.contains(one.getKey())) {
                made = one.getValue().getOrDefault(key, made);
            }
        }
        return 32 * s.modifiers + made;
    }

    int press(int key) {
        argument(key >= 0 && key < 26);
        if (s.layers.containsKey(key)) {
            s.held.add(key);
            return -1;
        }
        return type(strokeOf(key));
    }

    boolean release(int key) {
        argument(key >= 0 && key < 26);
        return s.held.remove(key);
    }

    int type(int stroke) {
        argument(isStroke(stroke));
        s.made++;
        s.latestTime = s.time;
        boolean some = !s.pending.isEmpty();
        List<Integer> q = new ArrayList<>(s.pending);
        q.add(stroke);
        s.pending = new ArrayList<>();
        int b = visibleWith(s.mode, q);
        if (b != -1) {
            int c = s.bindings.get(b).command;
            s.uses.set(c, s.uses.get(c) + 1);
            s.latest = c;
            if (s.commands.get(c).kind == 1) {
                s.back.add(s.mode);
                if (s.back.size() > 8) {
                    s.back.remove(0);
                }
                s.mode = s.commands.get(c).target;
            } else if (s.commands.get(c).kind == 2 && !s.back.isEmpty()) {
                s.mode = s.back.remove(s.back.size() - 1);
            }
            return c;
        }
        if (longer(s.mode, q) > 0) {
            s.pending = q;
            return -1;
        }
        s.dead++;
        return some ? type(stroke) : -1;
    }

    int typeDraft() {
        return typeAll(draft);
    }

    private int typeAll(List<Integer> q) {
        int done = 0;
        for (int stroke : q) {
            done += type(stroke) == -1 ? 0 : 1;
        }
        return done;
    }

    int tick(int ticks) {
        argument(ticks >= 1 && ticks <= 1000);
        if (s.time + ticks > 1000000) {
            return -2;
        }
        s.time += ticks;
        late();
        return s.time;
    }

    private void late() {
        if (s.timeout > 0 && s.time - s.latestTime >= s.timeout && !s.pending.isEmpty()) {
            s.pending = new ArrayList<>();
            s.dead++;
        }
    }

    int typing(int what) {
        return pick(List.of(s.mode, s.latest, s.dead, s.made, s.time - s.latestTime), what);
    }

    int pending(int i) {
        return pick(s.pending, i);
    }

    int backTo(int i) {
        return i < 0 || i >= s.back.size() ? -1 : s.back.get(s.back.size() - 1 - i);
    }

    int setTimeout(int timeout) {
        argument(timeout >= 0 && timeout < 1000);
        int before = s.timeout;
        s.timeout = timeout;
        late();
        return before;
    }

    int wish() {
        if (draft.isEmpty()) {
            return -4;
        }
        if (s.wishes.size() == 10) {
            return -2;
        }
        s.wishes.add(List.copyOf(draft));
        return s.wishes.size() - 1;
    }

    int clearWishes() {
        int n = s.wishes.size();
        s.wishes.clear();
        return n;
    }

    int leastDrop(int m) {
        mode(m);
        int n = s.wishes.size();
        int best = -1;
        for (int mask = (1 << n) - 1; mask >= 0; mask--) {
            boolean fits = true;
            for (int i = 0; i < n; i++) {
                for (int k = 0; k < n; k++) {
                    boolean kept = (mask >> i & 1) == 0 && (mask >> k & 1) == 0;
                    fits &= !kept || i == k || !clash(s.wishes.get(i), s.wishes.get(k));
                }
                fits &= (mask >> i & 1) == 1 || canBeBound(m, s.wishes.get(i));
            }
            if (fits && (best == -1 || Integer.bitCount(mask) <= Integer.bitCount(best))) {
                best = mask;
            }
        }
        return best;
    }

    int draftWish(int w) {
        index(0 <= w && w < s.wishes.size());
        draft = new ArrayList<>(s.wishes.get(w));
        return draft.size();
    }

    int digest() {
        int d = 7;
        for (Binding b : s.bindings) {
            d = 31 * d + b.mode;
            d = 31 * d + b.command;
            for (int stroke : b.sequence) {
                d = 31 * d + stroke;
            }
        }
        return d;
    }

    boolean saveSnapshot(int slot) {
        if (slot != 0 && slot != 1) {
            return false;
        }
        slots[slot] = s.copy();
        return true;
    }

    boolean restoreSnapshot(int slot) {
        if (slot != 0 && slot != 1 || slots[slot] == null) {
            return false;
        }
        s = slots[slot].copy();
        return true;
    }
}
