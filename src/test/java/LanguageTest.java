import java.io.IOException;
import java.lang.reflect.Constructor;
import java.lang.reflect.Field;
import java.lang.reflect.Method;
import java.lang.reflect.Modifier;
import java.nio.file.Files;
import java.nio.file.Path;
import java.util.Arrays;
import java.util.Set;
import java.util.TreeSet;
import java.util.regex.Pattern;

/** The face that the document gives, and those rules of LANGUAGE.md that can be seen from outside. */
public final class LanguageTest {
    private static final String[] FACE = {
        "boolean cancel(int)", "boolean drop(int)", "boolean report()", "boolean tick(int)",
        "int arrive(int)", "int content(int)", "int count(int)", "int entry(int,int)", "int feedback()",
        "int get(int)", "int goaway()", "int insert()", "int notice()", "int outcome(int)",
        "int put(int,int,int)", "int replace(int,int,int)", "int reply(int)", "int stored(int,int)"
    };
    private static final String[] FORBIDDEN = {
        "\\bimport\\b", "\\bpackage\\b", "\\bthrow\\b", "\\bthrows\\b", "\\btry\\b", "\\bcatch\\b",
        "\\bsynchronized\\b", "\\bassert\\b", "->", "::", "Exact\\(", "\\bSystem\\.(?!arraycopy)",
        "\\bstatic \\{", "\\bprotected\\b"
    };

    public static void main(String[] args) throws IOException {
        Check check = new Check();
        theFace(check);
        hiddenMembers(check);
        nestedClasses(check);
        words(check);
        check.finish();
    }

    private static void theFace(Check check) {
        int modifiers = TabledOrigin.class.getModifiers();
        check.due("the class is public and final", Modifier.isPublic(modifiers) && Modifier.isFinal(modifiers), true);
        check.due("public methods", publicMethods().equals(new TreeSet<>(Arrays.asList(FACE))), true);
        check.due("public constants", TabledOrigin.class.getFields().length, 1);
        Constructor<?>[] made = TabledOrigin.class.getDeclaredConstructors();
        check.due("one constructor", made.length, 1);
        check.due("without parameters", made[0].getParameterCount(), 0);
    }

    private static Set<String> publicMethods() {
        Set<String> found = new TreeSet<>();
        for (Method method : TabledOrigin.class.getDeclaredMethods()) {
            if (Modifier.isPublic(method.getModifiers())) {
                String text = method.toString().replace("public ", "").replace("TabledOrigin.", "");
                found.add(text);
            }
        }
        return found;
    }

    private static Set<String> publicNames() {
        Set<String> names = new TreeSet<>();
        for (String line : FACE) {
            names.add(line.substring(line.indexOf(' ') + 1, line.indexOf('(')));
        }
        return names;
    }

    private static void hiddenMembers(Check check) {
        for (Method method : TabledOrigin.class.getDeclaredMethods()) {
            check.due(method + " has few parameters", method.getParameterCount() <= 7, true);
            if (!Modifier.isPublic(method.getModifiers())) {
                check.due(method + " is private", Modifier.isPrivate(method.getModifiers()), true);
                check.due(method + " bears a public name", publicNames().contains(method.getName()), false);
            }
        }
        for (Field field : TabledOrigin.class.getDeclaredFields()) {
            boolean hidden = Modifier.isPrivate(field.getModifiers()) || field.getName().equals("NONE");
            check.due(field + " is private", hidden, true);
        }
        staticFieldsAreConstants(check, TabledOrigin.class);
    }

    private static void staticFieldsAreConstants(Check check, Class<?> one) {
        for (Field field : one.getDeclaredFields()) {
            if (Modifier.isStatic(field.getModifiers())) {
                check.due(field + " is final", Modifier.isFinal(field.getModifiers()), true);
                check.due(field + " is an int", field.getType() == int.class, true);
            }
        }
    }

    private static void nestedClasses(Check check) {
        Class<?>[] inside = TabledOrigin.class.getDeclaredClasses();
        check.due("at most twelve classes", inside.length <= 11, true);
        for (Class<?> one : inside) {
            check.due(one + " is static", Modifier.isStatic(one.getModifiers()), true);
            check.due(one + " is not public", Modifier.isPublic(one.getModifiers()), false);
            check.due(one + " has few fields", one.getDeclaredFields().length <= 20, true);
            staticFieldsAreConstants(check, one);
            for (Method method : one.getDeclaredMethods()) {
                check.due(method + " bears a public name", publicNames().contains(method.getName()), false);
                check.due(method + " has few parameters", method.getParameterCount() <= 7, true);
            }
        }
    }

    private static void words(Check check) throws IOException {
        String text = Files.readString(Path.of("src/main/java/TabledOrigin.java"));
        String code = text.replaceAll("(?s)/\\*.*?\\*/", "").replaceAll("//[^\n]*", "");
        for (String word : FORBIDDEN) {
            check.due("the word " + word + " stands in the code", Pattern.compile(word).matcher(code).find(), false);
        }
    }
}
