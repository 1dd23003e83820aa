import java.io.IOException;
import java.lang.reflect.Constructor;
import java.lang.reflect.Field;
import java.lang.reflect.Method;
import java.lang.reflect.Modifier;
import java.nio.file.Files;
import java.nio.file.Path;
import java.util.ArrayList;
import java.util.HashSet;
import java.util.List;
import java.util.Set;
import java.util.TreeSet;
import java.util.regex.Matcher;
import java.util.regex.Pattern;

/** The face of the document, word for word, and rules of LANGUAGE.md that can be looked up. */
public final class FaceTest {
    private static int wrong = 0;

    private FaceTest() {
    }

    public static void main(String[] args) throws IOException {
        Set<String> due = documentFace();
        Set<String> got = programFace();
        for (String one : due) {
            check(got.contains(one), "missing: " + one);
        }
        for (String one : got) {
            check(due.contains(one), "not in the document: " + one);
        }
        check(due.size() == 5 + 1 + 64, "the document's face has " + due.size() + " members");
        members();
        nested();
        source(Files.readString(Path.of("src/main/java/ShortcutBook.java")));
        System.out.println(wrong == 0 ? "the face and the rules are kept" : wrong + " faults");
        if (wrong != 0) {
            System.exit(1);
        }
    }

    private static void check(boolean right, String fault) {
        if (!right) {
            wrong++;
            System.out.println(fault);
        }
    }

    private static Set<String> documentFace() throws IOException {
        String text = Files.readString(Path.of("../shared/DOC.md"));
        int from = text.indexOf("public final class ShortcutBook {");
        Set<String> face = new TreeSet<>();
        for (String line : text.substring(from, text.indexOf("}\n```", from)).split("\n")) {
            String one = line.strip();
            if (one.startsWith("public") && one.endsWith(";")) {
                face.add(one.substring(0, one.length() - 1).replaceAll("(int|long|boolean) \\w+([,)])", "$1$2"));
            }
        }
        return face;
    }

    private static Set<String> programFace() {
        Set<String> face = new TreeSet<>();
        for (Field one : ShortcutBook.class.getDeclaredFields()) {
            if (Modifier.isPublic(one.getModifiers())) {
                try {
                    face.add("public static final int " + one.getName() + " = " + one.getInt(null));
                } catch (IllegalAccessException e) {
                    check(false, "no access to " + one);
                }
            }
        }
        for (Constructor<?> one : ShortcutBook.class.getDeclaredConstructors()) {
            face.add("public ShortcutBook(" + types(one.getParameterTypes()) + ")");
        }
        for (Method one : ShortcutBook.class.getDeclaredMethods()) {
            if (Modifier.isPublic(one.getModifiers())) {
                String thrown = types(one.getExceptionTypes());
                face.add("public " + one.getReturnType().getSimpleName() + " " + one.getName() + "("
                    + types(one.getParameterTypes()) + ")" + (thrown.isEmpty() ? "" : " throws " + thrown));
            }
        }
        return face;
    }

    private static String types(Class<?>[] all) {
        List<String> names = new ArrayList<>();
        for (Class<?> one : all) {
            names.add(one.getSimpleName());
        }
        return String.join(", ", names);
    }

    /** Members are public or private; static fields are final; no private method has a public name. */
    private static void members() {
        Set<String> shown = new HashSet<>();
        check(Modifier.isFinal(ShortcutBook.class.getModifiers()), "the class is not final");
        for (Field one : ShortcutBook.class.getDeclaredFields()) {
            check((one.getModifiers() & (Modifier.PUBLIC | Modifier.PRIVATE)) != 0, "neither public nor private: " + one);
        }
        for (Method one : ShortcutBook.class.getDeclaredMethods()) {
            check((one.getModifiers() & (Modifier.PUBLIC | Modifier.PRIVATE)) != 0, "neither public nor private: " + one);
            if (Modifier.isPublic(one.getModifiers())) {
                check(shown.add(one.getName()), "two public methods of one name: " + one);
            }
        }
        for (Method one : ShortcutBook.class.getDeclaredMethods()) {
            check(Modifier.isPublic(one.getModifiers()) || !shown.contains(one.getName()), "bears a public name: " + one);
        }
        for (Class<?> inside : ShortcutBook.class.getDeclaredClasses()) {
            for (Method one : inside.getDeclaredMethods()) {
                check(!shown.contains(one.getName()), "bears a public name: " + one);
            }
        }
    }

    private static void nested() {
        List<Class<?>> all = new ArrayList<>(List.of(ShortcutBook.class.getDeclaredClasses()));
        check(all.size() <= 11, "too many classes: " + all.size());
        all.add(ShortcutBook.class);
        for (Class<?> one : all) {
            check(one == ShortcutBook.class || Modifier.isStatic(one.getModifiers()), "not static: " + one);
            int fields = 0;
            for (Field field : one.getDeclaredFields()) {
                boolean isStatic = Modifier.isStatic(field.getModifiers());
                check(!isStatic || Modifier.isFinal(field.getModifiers()), "static and not final: " + field);
                fields += isStatic ? 0 : 1;
            }
            check(fields <= 20, "too many fields: " + one);
            for (Method method : one.getDeclaredMethods()) {
                check(method.getParameterCount() <= 7, "too many parameters: " + method);
            }
        }
    }

    private static void source(String text) {
        String code = text.replaceAll("(?s)/\\*.*?\\*/", "").replaceAll("//[^\n]*", "");
        String[] forbidden = {
            "\\bimport\\b", "\\bpackage\\b", "->", "::", "\\btry\\b", "\\bcatch\\b", "\\bfinally\\b", "\\bassert\\b",
            "\\bsynchronized\\b", "\\binstanceof\\b", "\\bFloat\\.", "\\bDouble\\.", "\\bSystem\\.", "Exact\\b",
            "\\bequals\\b", "\\bhashCode\\b", "\\btoString\\b", "\\bvar\\b", "\\bprotected\\b"
        };
        for (String one : forbidden) {
            check(!Pattern.compile(one).matcher(code).find(), "the source has " + one);
        }
        Matcher thrown = Pattern.compile("\\bthrow\\b(?! new (IllegalArgument|IndexOutOfBounds|Arithmetic)Exception\\(\"[^\"]+\"\\);)")
            .matcher(code);
        check(!thrown.find(), "a throw of another form");
        Matcher made = Pattern.compile("new \\w+\\[(?!Math\\.max\\(\\w+, 0\\)\\]|TEXT_BYTES\\])").matcher(code);
        check(!made.find(), "a new array whose length is not tested");
        check(code.chars().allMatch(c -> c < 128), "a sign above 127");
    }
}
