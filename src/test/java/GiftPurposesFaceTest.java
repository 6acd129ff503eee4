import java.io.IOException;
import java.lang.reflect.Constructor;
import java.lang.reflect.Field;
import java.lang.reflect.Method;
import java.lang.reflect.Modifier;
import java.nio.file.Files;
import java.nio.file.Path;
import java.util.ArrayList;
import java.util.Arrays;
import java.util.List;
import java.util.TreeSet;
import java.util.regex.Matcher;
import java.util.regex.Pattern;

/** Tests of the face of the class, and of those rules of LANGUAGE.md that can be seen from its names and words. */
public final class GiftPurposesFaceTest {
    private static final String[] METHODS = {"purpose/0", "donor/0", "declare/2", "give/3", "pledge/4", "miss/1",
        "stop/1", "claim/0", "spend/2", "agree/3", "merge/2", "refund/1", "pass/1", "set/2", "purposeOf/2",
        "donorOf/2", "giftOf/2", "pledgeOf/2", "count/1", "wouldClaim/1", "consents/2", "later/2", "undo/0",
        "type/1", "clearText/0", "fault/1", "play/0"};
    private static final String[] CONSTANTS = {"INVALID_ARGUMENT", "NOT_POSSIBLE", "LIMIT_REACHED", "NOT_FOUND"};

    private static int passed = 0;
    private static int failed = 0;

    public static void main(String[] arguments) throws IOException {
        face();
        for (Class<?> inside : GiftPurposes.class.getDeclaredClasses()) {
            check(inside.getName() + " is static", Modifier.isStatic(inside.getModifiers()));
            check(inside.getName() + " is not public", !Modifier.isPublic(inside.getModifiers()));
            namesInside(inside);
        }
        words(Files.readString(Path.of("src/main/java/GiftPurposes.java")));
        System.out.println(passed + " passed, " + failed + " failed");
        if (failed > 0) {
            System.exit(1);
        }
    }

    private static void check(String what, boolean holds) {
        if (holds) {
            passed++;
        } else {
            failed++;
            System.out.println("does not hold: " + what);
        }
    }

    private static void face() {
        int kind = GiftPurposes.class.getModifiers();
        check("public and final", Modifier.isPublic(kind) && Modifier.isFinal(kind));
        List<String> methods = new ArrayList<>();
        for (Method method : GiftPurposes.class.getDeclaredMethods()) {
            if (!Modifier.isPrivate(method.getModifiers())) {
                methods.add(method.getName() + "/" + method.getParameterCount());
                check(method.getName() + " is public", Modifier.isPublic(method.getModifiers()));
                check(method.getName() + " returns int", method.getReturnType() == int.class);
                for (Class<?> parameter : method.getParameterTypes()) {
                    check(method.getName() + " takes int", parameter == int.class);
                }
            }
        }
        check("the methods", new TreeSet<>(methods).equals(new TreeSet<>(Arrays.asList(METHODS))));
        check("no method twice", methods.size() == METHODS.length);
        List<String> constants = new ArrayList<>();
        for (Field field : GiftPurposes.class.getDeclaredFields()) {
            if (!Modifier.isPrivate(field.getModifiers())) {
                constants.add(field.getName());
                check(field.getName() + " is a constant", field.getType() == int.class
                        && field.getModifiers() == (Modifier.PUBLIC | Modifier.STATIC | Modifier.FINAL));
            }
        }
        check("the constants", new TreeSet<>(constants).equals(new TreeSet<>(Arrays.asList(CONSTANTS))));
        Constructor<?>[] constructors = GiftPurposes.class.getDeclaredConstructors();
        check("the constructor", constructors.length == 1 && constructors[0].getParameterCount() == 0
                && Modifier.isPublic(constructors[0].getModifiers()));
    }

    private static void namesInside(Class<?> inside) {
        int fields = 0;
        for (Field field : inside.getDeclaredFields()) {
            if (Modifier.isStatic(field.getModifiers())) {
                check(field + " is final", Modifier.isFinal(field.getModifiers()));
            } else {
                fields++;
            }
        }
        check(inside.getName() + " has some twenty fields", fields <= 20);
        for (Method method : inside.getDeclaredMethods()) {
            check(method + " takes at most seven parameters", method.getParameterCount() <= 7);
            for (String name : METHODS) {
                check(method + " bears no name of the face", !name.startsWith(method.getName() + "/"));
            }
        }
    }

    private static void words(String source) {
        String code = source.replaceAll("(?s)/\\*.*?\\*/", " ").replaceAll("//[^\n]*", " ")
                .replaceAll("\"[^\"\n]*\"", "\"\"");
        String[] forbidden = {"throw", "try", "catch", "throws", "synchronized", "assert", "import", "package",
            "float", "double", "equals", "hashCode", "toString", "volatile", "native", "goto", "Object", "var"};
        for (String word : forbidden) {
            check("no word " + word, !Pattern.compile("\\b" + word + "\\b").matcher(code).find());
        }
        check("no lambda, no method reference", !code.contains("->") && !code.contains("::"));
        Matcher library = Pattern.compile("\\b([A-Z][a-z]\\w*)\\b").matcher(code);
        List<String> known = List.of("GiftPurposes", "Table", "Books", "History", "Script", "String", "Math", "System");
        while (library.find()) {
            check("the class " + library.group(1) + " is known", known.contains(library.group(1)));
        }
        Matcher calls = Pattern.compile("\\b(Math|System)\\.(\\w+)").matcher(code);
        while (calls.find()) {
            check("the function " + calls.group(), List.of("max", "min", "arraycopy").contains(calls.group(2)));
        }
        for (char sign : source.toCharArray()) {
            if (sign > 126) {
                check("sign " + (int) sign, false);
            }
        }
    }
}
