import java.lang.reflect.InvocationTargetException;
import java.lang.reflect.Method;
import java.lang.reflect.Modifier;
import java.util.ArrayList;
import java.util.Comparator;
import java.util.LinkedHashMap;
import java.util.List;
import java.util.Map;
import java.util.Random;

/**
 * Runs of 512 calls on the program and on NaiveBook, which must answer alike. The seeds are fixed,
 * so that each run is the same each time. More runs: java RandomRunTest NUMBER FIRST_SEED.
 */
public final class RandomRunTest {
    private static final int CALLS = 512;
    private static final int[] STRANGE = {
        -1, -2, 4, 5, 6, 7, 10, 11, 16, 25, 26, 31, 32, 40, 80, 511, 512, 999, 1000, 1001, 1600, 1601,
        Integer.MAX_VALUE, Integer.MIN_VALUE, 1 << 16, 1 << 26
    };

    private final Random random;
    private final ShortcutBook book = new ShortcutBook();
    private final NaiveBook naive = new NaiveBook();
    private final StringBuilder log = new StringBuilder();
    private final int keys;
    private int calls;

    private RandomRunTest(long seed) {
        random = new Random(seed);
        keys = 2 + random.nextInt(4) * random.nextInt(4);
    }

    private static final List<Method> FACE = face();
    private static final Map<String, Method> NAIVE = new LinkedHashMap<>();
    private static final Map<String, Long> ANSWERS = new LinkedHashMap<>();

    private static List<Method> face() {
        List<Method> all = new ArrayList<>();
        for (Method one : ShortcutBook.class.getDeclaredMethods()) {
            if (Modifier.isPublic(one.getModifiers())) {
                all.add(one);
            }
        }
        all.sort(Comparator.comparing(Method::getName));
        return all;
    }

    public static void main(String[] args) {
        for (Method one : FACE) {
            for (Method other : NaiveBook.class.getDeclaredMethods()) {
                boolean fits = other.isVarArgs() || other.getParameterCount() == one.getParameterCount()
                    && List.of(other.getParameterTypes()).equals(List.of(one.getParameterTypes()));
                if (other.getName().equals(one.getName()) && fits && !Modifier.isPrivate(other.getModifiers())) {
                    NAIVE.put(one.getName(), other);
                }
            }
        }
        int runs = args.length > 0 ? Integer.parseInt(args[0]) : 400;
        long first = args.length > 1 ? Long.parseLong(args[1]) : 1;
        for (long seed = first; seed < first + runs; seed++) {
            if (!new RandomRunTest(seed).run()) {
                System.out.println("seed " + seed);
                System.exit(1);
            }
        }
        if (ANSWERS.size() < 65 - 1) {
            System.out.println("only these were called: " + ANSWERS.keySet());
            System.exit(1);
        }
        System.out.println(runs + " runs are alike");
        if (args.length > 0) {
            System.out.println(ANSWERS);
        }
    }

    private boolean run() {
        boolean alike = text(bookText(random.nextInt(3))) && call("load");
        while (alike && calls < CALLS - 90) {
            alike = random.nextInt(40) == 0 ? someText() : someCall();
        }
        if (!alike) {
            System.out.println(log);
        }
        return alike;
    }

    private boolean someText() {
        int kind = random.nextInt(8);
        if (kind == 0) {
            return text(bookText(random.nextInt(3))) && call("load");
        }
        if (kind == 1) {
            return text(spoiled(bookText(random.nextInt(3)))) && call("load") && faults();
        }
        if (kind == 2) {
            return text(spoiled(playText())) && call("play") && faults();
        }
        return text(playText()) && call("play") && faults();
    }

    private boolean faults() {
        return call("errorCode") && call("errorPosition");
    }

    private boolean someCall() {
        int chance = random.nextInt(100);
        if (chance < 10) {
            return call("draft", stroke());
        }
        if (chance < 15) {
            return call("bind", random.nextInt(6), random.nextInt(4));
        }
        if (chance < 18) {
            return call("wish");
        }
        if (chance < 23) {
            return call("type", stroke());
        }
        if (chance < 25) {
            return call("clearDraft");
        }
        Method one = FACE.get(random.nextInt(FACE.size()));
        String name = one.getName();
        boolean rare = name.equals("load") || name.equals("unbind") || name.equals("clearWishes")
            || name.equals("restoreSnapshot") || name.equals("reserve") || name.equals("appendInput")
            || name.equals("truncateInput");
        if (rare && random.nextInt(4) != 0) {
            return true;
        }
        Object[] arguments = new Object[one.getParameterCount()];
        for (int i = 0; i < arguments.length; i++) {
            boolean flag = one.getParameterTypes()[i] == boolean.class;
            arguments[i] = flag ? (Object) random.nextBoolean() : (Object) argument(name, i);
        }
        return call(name, arguments);
    }

    private int argument(String name, int place) {
        if (random.nextInt(12) == 0) {
            return STRANGE[random.nextInt(STRANGE.length)];
        }
        switch (name) {
            case "type":
            case "draft":
                return stroke();
            case "setTimeout":
                return random.nextInt(12);
            case "hold":
                return random.nextInt(4);
            case "tick":
                return 1 + random.nextInt(8);
            case "press":
            case "release":
            case "strokeOf":
                return key();
            case "mapped":
                return place == 0 ? random.nextInt(4) : key();
            case "move":
            case "unbind":
            case "draftFrom":
            case "packed":
            case "common":
            case "binding":
            case "bindingStroke":
                return place == 0 ? random.nextInt(40) : random.nextInt(5);
            case "shadowOf":
                return place == 1 ? random.nextInt(40) : random.nextInt(6);
            case "visibleAt":
                return place == 1 ? random.nextInt(20) : random.nextInt(6);
            case "count":
                return random.nextInt(12);
            default:
                return random.nextInt(6);
        }
    }

    private int key() {
        return random.nextInt(40) == 0 ? random.nextInt(26) : random.nextInt(Math.min(keys, 26));
    }

    private int stroke() {
        return 32 * (random.nextInt(4) == 0 ? random.nextInt(16) : random.nextInt(8) == 0 ? 1 : 0) + key();
    }

    private String strokes() {
        StringBuilder text = new StringBuilder();
        int number = 1 + random.nextInt(4);
        for (int i = 0; i < number; i++) {
            int stroke = stroke();
            text.append(' ');
            for (int k : random.nextBoolean() ? new int[] {0, 1, 2, 3} : new int[] {2, 3, 1, 0}) {
                text.append((stroke >> 5 + k & 1) == 1 ? "CSAM".substring(k, k + 1) : "");
            }
            text.append((char) ('a' + stroke % 32));
        }
        return text.toString();
    }

    /** A text of a book; most clashes are found and left out before it is used. */
    private String bookText(int size) {
        NaiveBook trial = new NaiveBook();
        StringBuilder text = new StringBuilder();
        int statements = 6 + 20 * size + random.nextInt(20);
        for (int i = 0; i < statements; i++) {
            String one = bookStatement(i);
            if (text.length() + one.length() > 1580) {
                break;
            }
            put(trial, text + one + (random.nextBoolean() ? "" : " "));
            if (trial.load() >= 0 || random.nextInt(200) == 0) {
                text.append(one).append(random.nextInt(4) == 0 ? "\n" : "");
            }
        }
        return text.toString();
    }

    private String bookStatement(int i) {
        int kind = i < 4 ? i : random.nextInt(20);
        switch (kind) {
            case 0: return "plain;";
            case 1: return "mode " + random.nextInt(2) + ";";
            case 2: return "switch " + random.nextInt(3) + ";";
            case 3: return "back ;";
            case 4: return "reserve" + strokes() + ";";
            case 5: return "timeout " + random.nextInt(9) + ";";
            case 6:
            case 7: {
                StringBuilder text = new StringBuilder("layer " + (char) ('a' + key()));
                for (int k = random.nextInt(4); k > 0; k--) {
                    text.append(' ').append((char) ('a' + key())).append(' ').append((char) ('a' + key()));
                }
                return text + ";";
            }
            case 8: return "mode " + random.nextInt(6) + ";";
            default: return "bind " + random.nextInt(4) + " " + random.nextInt(5) + strokes() + ";";
        }
    }

    private String playText() {
        StringBuilder text = new StringBuilder();
        int commands = random.nextInt(random.nextInt(5) == 0 ? 44 : 12);
        for (int i = 0; i < commands; i++) {
            String[] all = {
                "press " + (char) ('a' + key()) + ";", "press " + (char) ('a' + key()) + ";",
                "release " + (char) ('a' + key()) + ";", "hold " + random.nextInt(3) + ";",
                "hold " + random.nextInt(18) + ";", "tick " + random.nextInt(9) + ";",
                "tick " + random.nextInt(1000) + ";", "unbind " + random.nextInt(30) + ";",
                "type" + strokes() + ";", "type" + strokes() + ";", "type" + strokes() + ";",
                "bind " + random.nextInt(3) + " " + random.nextInt(4) + strokes() + ";",
                "force " + random.nextInt(3) + " " + random.nextInt(4) + strokes() + ";",
                "force " + random.nextInt(7) + " " + random.nextInt(9) + strokes() + ";"
            };
            text.append(all[random.nextInt(all.length)]);
        }
        return text.length() > 1580 ? "tick 1;" : text.toString();
    }

    /** Changes, puts in or leaves out something at one place or two. */
    private String spoiled(String text) {
        String[] bits = {
            ";", " ", "\n", "a", "Ca", "CCa", "aC", "0", "5", "6", "9", "999", "1000", "007", "0000", "mode", "bind 0 0",
            "bind", "plain;", "switch 5;", "back;", "reserve a b c d e", " a b c d e", "layer", "!", "\t", "\0",
            "abcdefgh", "abcdefghi", "press a;", "hold 1;", "\u00e4", "Z", "tick", "type a;", "timeout 7"
        };
        StringBuilder spoiled = new StringBuilder(text);
        for (int n = 1 + random.nextInt(2); n > 0; n--) {
            int place = random.nextInt(spoiled.length() + 1);
            int after = Math.min(spoiled.length(), place + random.nextInt(3) * random.nextInt(3));
            spoiled.replace(place, after, random.nextInt(4) == 0 ? "" : bits[random.nextInt(bits.length)]);
        }
        if (random.nextInt(5) == 0) {
            spoiled.setLength(random.nextInt(spoiled.length() + 1));
        }
        spoiled.setLength(Math.min(spoiled.length(), 1590));
        return spoiled.toString();
    }

    private static void put(NaiveBook one, String text) {
        one.truncateInput(0);
        for (int i = 0; i < text.length(); i += 20) {
            one.appendInput(words(text, i));
        }
        one.truncateInput(text.length());
    }

    private static int[] words(String text, int from) {
        int[] words = new int[5];
        for (int k = 0; k < 20; k++) {
            int one = from + k < text.length() ? text.charAt(from + k) & 255 : 0;
            words[k / 4] = words[k / 4] << 8 | one;
        }
        return words;
    }

    private boolean text(String text) {
        boolean alike = call("truncateInput", 0);
        for (int i = 0; alike && i < text.length(); i += 20) {
            int[] w = words(text, i);
            alike = call("appendInput", w[0], w[1], w[2], w[3], w[4]);
        }
        log.append("  // ").append(text.replace('\n', '/')).append('\n');
        return alike && call("truncateInput", text.length());
    }

    private boolean call(String name, Object... arguments) {
        if (++calls > CALLS) {
            return true;
        }
        Method one = FACE.stream().filter(m -> m.getName().equals(name)).findFirst().orElseThrow();
        Method other = NAIVE.get(name);
        String got = answer(one, book, arguments);
        String want = answer(other, naive, other.isVarArgs() ? new Object[] {ints(arguments)} : arguments);
        log.append(name).append(java.util.Arrays.toString(arguments)).append(" = ").append(got).append('\n');
        ANSWERS.merge(name, 1L, Long::sum);
        if (!got.equals(want)) {
            log.append("due is ").append(want).append('\n');
        }
        return got.equals(want);
    }

    private static int[] ints(Object[] arguments) {
        int[] all = new int[arguments.length];
        for (int i = 0; i < all.length; i++) {
            all[i] = (Integer) arguments[i];
        }
        return all;
    }

    private static String answer(Method method, Object object, Object[] arguments) {
        try {
            return String.valueOf(method.invoke(object, arguments));
        } catch (InvocationTargetException e) {
            return e.getCause().getClass().getSimpleName();
        } catch (IllegalAccessException e) {
            throw new IllegalStateException(e);
        }
    }
}
