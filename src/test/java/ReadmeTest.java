import java.io.IOException;
import java.lang.reflect.Field;
import java.lang.reflect.Method;
import java.lang.reflect.Modifier;
import java.nio.charset.StandardCharsets;
import java.nio.file.Files;
import java.nio.file.Path;
import java.util.Set;
import java.util.TreeSet;
import java.util.regex.Matcher;
import java.util.regex.Pattern;

/** README.md tells the face that the class has, and the answers that it gives. */
public final class ReadmeTest {
    private static final Pattern CONSTANT = Pattern.compile("(?m)^    public static final int (\\w+) = (-?\\d+);");
    private static final Pattern METHOD = Pattern.compile("(?m)^    public int (\\w+)\\((.*?)\\);");
    private static final Pattern CALL = Pattern.compile("clock\\.(\\w+)\\(([-0-9, ]*)\\); +// (-?\\d+)(:.*)?");
    private static final Pattern TYPING = Pattern.compile("for \\(char sign : \"(.*)\"\\.toCharArray\\(\\)\\) \\{");
    private static final Set<String> NO_CALLS = Set.of("", "VarveClock clock = new VarveClock();", "clock.type(sign);", "}",
            "// A core can be told as a text, too.");

    private static int wrong = 0;

    private static void due(String what, Object due, Object told) {
        if (!due.equals(told)) {
            wrong++;
            System.out.println(what + ": README.md tells " + told + ", due is " + due);
        }
    }

    public static void main(String[] args) throws IOException {
        String text = new String(Files.readAllBytes(Path.of("README.md")), StandardCharsets.UTF_8);
        face(codeBelow(text, "## The face"));
        run(codeBelow(text, "## Use"));
        System.out.println(wrong == 0 ? "README.md is right" : wrong + " lines of README.md are wrong");
        if (wrong != 0) {
            System.exit(1);
        }
    }

    private static String codeBelow(String text, String heading) {
        String below = text.split("\n" + heading + "\n", 2)[1];
        return below.split("```java\n", 2)[1].split("```", 2)[0];
    }

    private static void face(String code) {
        Set<String> told = new TreeSet<>();
        Matcher constant = CONSTANT.matcher(code);
        while (constant.find()) {
            told.add(constant.group(1) + " = " + constant.group(2));
        }
        Matcher method = METHOD.matcher(code);
        while (method.find()) {
            int parameters = method.group(2).isEmpty() ? 0 : method.group(2).split(",").length;
            told.add(method.group(1) + " with " + parameters);
        }
        due("the face", faceOfTheClass(), told);
    }

    private static Set<String> faceOfTheClass() {
        Set<String> face = new TreeSet<>();
        for (Field field : VarveClock.class.getFields()) {
            try {
                face.add(field.getName() + " = " + field.getInt(null));
            } catch (IllegalAccessException e) {
                throw new IllegalStateException(e);
            }
        }
        for (Method method : VarveClock.class.getDeclaredMethods()) {
            if (Modifier.isPublic(method.getModifiers())) {
                face.add(method.getName() + " with " + method.getParameterCount());
            }
        }
        return face;
    }

    private static void run(String code) {
        Subject clock = Subject.fresh();
        int calls = 0;
        for (String line : code.split("\n")) {
            Matcher call = CALL.matcher(line);
            Matcher typing = TYPING.matcher(line);
            if (call.matches()) {
                String words = (call.group(1) + " " + call.group(2).replace(",", "")).trim();
                due(line, clock.answer(words), Integer.parseInt(call.group(3)));
                calls++;
            } else if (typing.matches()) {
                clock.writes(typing.group(1));
            } else {
                due("a line that is no call", NO_CALLS.contains(line.trim()) ? line : "one of those known", line);
            }
        }
        due("the run has calls", calls > 0, true);
    }
}
