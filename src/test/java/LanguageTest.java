import java.io.IOException;
import java.lang.reflect.Constructor;
import java.lang.reflect.Field;
import java.lang.reflect.Method;
import java.lang.reflect.Modifier;
import java.nio.charset.StandardCharsets;
import java.nio.file.Files;
import java.nio.file.Path;
import java.util.ArrayList;
import java.util.Arrays;
import java.util.List;
import java.util.Set;
import java.util.TreeSet;
import java.util.regex.Matcher;
import java.util.regex.Pattern;

/** The public face, and those rules of ../shared/LANGUAGE.md that can be seen from the source's words. */
public final class LanguageTest {
    private static final String[] FACE = {
        "int addAsh(int,int,int)", "int addLayer(int,int,int,int)", "int age(int)", "int ash(int,int)",
        "int bound(int,int,int)", "int clearText()", "int cost()", "int costWith(int,int,int)", "int count(int)",
        "int fault()", "int lay()", "int layer(int,int)", "int offset(int)", "int rate(int,int,int)",
        "int removeAsh(int)", "int removeLayer(int)", "int set(int,int)", "int setLayer(int,int,int)",
        "int total(int)", "int type(int)", "int undo()", "int ways()", "int widen()", "int without(int)",
        "int years(int,int)"};
    private static final String[] FORBIDDEN = {
        "\\b(throw|throws|try|catch|finally|synchronized|assert|import|package|lambda|volatile|native)\\b", "->", "::",
        "@", "\\b(System\\.(?!arraycopy)|Thread|Random|Runtime|Class|Object|Exception)\\b", "\\w+Exact\\b",
        "\\b(equals|hashCode|toString)\\b", "\\+ *\"", "\" *\\+", "[^\\x00-\\x7f]"};

    private static int wrong = 0;

    private static void fail(String what) {
        wrong++;
        System.out.println(what);
    }

    public static void main(String[] args) throws IOException {
        face();
        names();
        String text = new String(Files.readAllBytes(Path.of("src/main/java/VarveClock.java")), StandardCharsets.UTF_8);
        source(text);
        lengths(text.split("\n"));
        System.out.println(wrong == 0 ? "the rules are kept" : wrong + " rules are not kept");
        if (wrong != 0) {
            System.exit(1);
        }
    }

    private static void face() {
        Set<String> found = new TreeSet<>();
        for (Method method : VarveClock.class.getDeclaredMethods()) {
            if (!Modifier.isPrivate(method.getModifiers())) {
                String types = Arrays.toString(method.getParameterTypes());
                String list = types.substring(1, types.length() - 1).replace(" ", "");
                found.add(method.getReturnType() + " " + method.getName() + "(" + list + ")");
            }
        }
        if (!found.equals(new TreeSet<>(Arrays.asList(FACE)))) {
            fail("rule 1: the face is " + found);
        }
        Constructor<?>[] constructors = VarveClock.class.getDeclaredConstructors();
        int modifiers = VarveClock.class.getModifiers();
        if (!Modifier.isPublic(modifiers) || !Modifier.isFinal(modifiers) || constructors.length != 1
                || !Modifier.isPublic(constructors[0].getModifiers()) || constructors[0].getParameterCount() != 0) {
            fail("rule 1: the class or its constructor");
        }
        for (Field field : VarveClock.class.getDeclaredFields()) {
            boolean isConstant = "INVALID_ARGUMENT NOT_POSSIBLE LIMIT_REACHED NOT_FOUND".contains(field.getName());
            if (isConstant != Modifier.isPublic(field.getModifiers())
                    || !isConstant && !Modifier.isPrivate(field.getModifiers())) {
                fail("rule 1: " + field);
            }
            if (!Modifier.isFinal(field.getModifiers())) {
                fail("rule 5: " + field);
            }
        }
    }

    private static void names() {
        List<Class<?>> inside = new ArrayList<>(Arrays.asList(VarveClock.class.getDeclaredClasses()));
        if (inside.size() > 11) {
            fail("rule 11: " + inside.size() + " classes inside");
        }
        inside.add(VarveClock.class);
        for (Class<?> one : inside) {
            int fields = 0;
            for (Field field : one.getDeclaredFields()) {
                fields += Modifier.isStatic(field.getModifiers()) ? 0 : 1;
                if (Modifier.isStatic(field.getModifiers()) && !Modifier.isFinal(field.getModifiers())) {
                    fail("rule 5: " + field);
                }
            }
            if (fields > 20) {
                fail("rule 11: " + fields + " fields in " + one);
            }
            if (one != VarveClock.class && !Modifier.isStatic(one.getModifiers())) {
                fail("rule 2: " + one);
            }
            if (one != VarveClock.class && (one.getModifiers() & (Modifier.PUBLIC | Modifier.PROTECTED)) != 0) {
                fail("rule 1: " + one);
            }
            for (Method method : one.getDeclaredMethods()) {
                if (method.getParameterCount() > 7) {
                    fail("rule 11: " + method);
                }
                for (String name : FACE) {
                    if (one != VarveClock.class && name.startsWith("int " + method.getName() + "(")) {
                        fail("rule 1: " + method + " bears a public name");
                    }
                }
            }
        }
    }

    private static void source(String text) {
        String code = text.replaceAll("(?s)/\\*.*?\\*/", "").replaceAll("//[^\n]*", "");
        for (String words : FORBIDDEN) {
            Matcher matcher = Pattern.compile(words).matcher(code);
            if (matcher.find()) {
                fail("forbidden: " + matcher.group());
            }
        }
        Matcher made = Pattern.compile("new (\\w+)").matcher(code);
        while (made.find()) {
            if (!Set.of("Core", "History", "Script", "Reckoning", "int", "char").contains(made.group(1))) {
                fail("rule 3: " + made.group());
            }
        }
    }

    /** A method begins with a line in a class that ends with "{", and ends with a "}" as far in. */
    private static void lengths(String[] lines) {
        Pattern head = Pattern.compile("( {4}| {8})(?:[\\w\\[\\]]+ )*\\w+\\(.*\\) \\{");
        for (int i = 0; i < lines.length; i++) {
            Matcher matcher = head.matcher(lines[i]);
            if (matcher.matches()) {
                int end = i;
                while (end < lines.length && !lines[end].equals(matcher.group(1) + "}")) {
                    end++;
                }
                if (end - i > 60) {
                    fail("rule 11: " + (end - i) + " lines: " + lines[i].trim());
                }
            }
        }
    }
}
