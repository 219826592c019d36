import java.io.IOException;
import java.lang.reflect.Method;
import java.lang.reflect.Modifier;
import java.nio.file.Files;
import java.nio.file.Path;
import java.util.regex.Matcher;
import java.util.regex.Pattern;

/** Makes the calls that README.md shows, in their order; each comment begins with the answer. */
public final class ReadmeTest {
    private static final Pattern BLOCK = Pattern.compile("```java\n(.*?)```", Pattern.DOTALL);
    private static final Pattern CALL = Pattern.compile("screens\\.(\\w+)\\(([^)]*)\\); *// (\\S+):.*");
    private static final Pattern TYPED =
        Pattern.compile("for \\(char code : \"([^\"]*)\"\\.toCharArray\\(\\)\\) screens\\.append\\(code\\);");
    private static final String NEW = "HalftoneScreens screens = new HalftoneScreens();";

    private ReadmeTest() {
    }

    private static void run(HalftoneScreens screens, String line) throws ReflectiveOperationException {
        Matcher typed = TYPED.matcher(line);
        if (typed.matches()) {
            Due.type(screens, typed.group(1));
            return;
        }
        Matcher call = CALL.matcher(line);
        Due.same("is a call: " + line, call.matches() ? 1 : 0, 1);
        if (call.matches()) {
            Due.sameText(line, answer(screens, call.group(1), call.group(2)), call.group(3));
        }
    }

    private static String answer(HalftoneScreens screens, String name, String texts)
            throws ReflectiveOperationException {
        String[] parts = texts.isEmpty() ? new String[0] : texts.split(", ");
        Class<?>[] types = new Class<?>[parts.length];
        Object[] values = new Object[parts.length];
        for (int index = 0; index < parts.length; index++) {
            types[index] = int.class;
            values[index] = Integer.parseInt(parts[index]);
        }
        Method method = HalftoneScreens.class.getMethod(name, types);
        return method.invoke(screens, values).toString();
    }

    private static void allMethodsAreNamed(String page) {
        for (Method method : HalftoneScreens.class.getDeclaredMethods()) {
            if (Modifier.isPublic(method.getModifiers())) {
                String name = method.getName();
                boolean isNamed = page.contains("screens." + name + "(") || page.contains("`" + name + "`");
                Due.same("the page names " + name, isNamed ? 1 : 0, 1);
            }
        }
    }

    public static void main(String[] args) throws IOException, ReflectiveOperationException {
        String page = Files.readString(Path.of(args.length > 0 ? args[0] : "README.md")).replace("\r", "");
        HalftoneScreens screens = new HalftoneScreens();
        int lines = 0;
        Matcher block = BLOCK.matcher(page);
        while (block.find()) {
            for (String line : block.group(1).split("\n")) {
                lines++;
                if (lines == 1) {
                    Due.sameText("the first line", line, NEW);
                } else {
                    run(screens, line);
                }
            }
        }
        Due.same("there are calls", lines > 1 ? 1 : 0, 1);
        allMethodsAreNamed(page);
        Due.finish("ReadmeTest");
    }
}
