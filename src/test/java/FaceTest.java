import java.io.IOException;
import java.lang.reflect.Constructor;
import java.lang.reflect.Field;
import java.lang.reflect.Method;
import java.lang.reflect.Modifier;
import java.nio.file.Files;
import java.nio.file.Path;
import java.util.Arrays;
import java.util.List;
import java.util.Set;
import java.util.TreeSet;
import java.util.regex.Matcher;
import java.util.regex.Pattern;

/** The public face and the plain rules of LANGUAGE.md that can be seen in the class or its text. */
public final class FaceTest {
    private static final String[] METHODS = {"append(int)int", "clearInput()int", "firstError()int", "load(int)int",
        "setScreen(int,int,int,int,int,int)int", "remove(int)int", "setCenter(int,boolean)int", "turn(int,int)int",
        "shorten(int)int", "setTint(int,int)int", "setGain(int)int", "screen(int,int)int", "place(int,int,int)int",
        "growth(int,int,int)int", "placeOf(int,int)int", "pixel(int,int)int", "inked(int,int,int,int,int)int",
        "dots(int,int)int", "joined(int,int)int", "firstJoined(int,int)int", "strength(int,int)int",
        "meanStrength(int)double", "compensated(int,int)int", "period(int,int)int", "beat(int,int,int)int",
        "mixture(int)int", "nearest(int,int,int,int)int", "count(int)int", "digest()long"};
    private static final String[] FOREIGN = {"import ", "package ", "->", "::", "finally", "synchronized", "assert ",
        "try {", "catch", "System.out", "System.nanoTime", "Math.random", "Exact", "protected", "record ", " toString"};
    private static final Set<String> LIBRARY = Set.of("Math.abs", "Math.min", "Math.max", "Math.floorDiv",
        "Math.floorMod", "System.arraycopy", "IllegalArgumentException", "IllegalStateException",
        "IndexOutOfBoundsException");
    private static final Pattern CAPITAL = Pattern.compile("\\b[A-Z][A-Za-z]*[a-z][A-Za-z]*\\b(\\.\\w+)?");
    private static final Pattern COMMENT = Pattern.compile("/\\*.*?\\*/|//[^\n]*", Pattern.DOTALL);
    private static final Pattern METHOD = Pattern.compile(" {4}( {4})?\\w[^=]*\\) (throws .*)?\\{");
    private static final int MOST_PARAMETERS = 7;
    private static final int MOST_LINES = 60;

    private FaceTest() {
    }

    private static void methods() {
        Set<String> found = new TreeSet<>();
        Set<String> names = new TreeSet<>();
        for (Method method : HalftoneScreens.class.getDeclaredMethods()) {
            if (Modifier.isPrivate(method.getModifiers())) {
                continue;
            }
            StringBuilder text = new StringBuilder(method.getName()).append('(');
            for (Class<?> type : method.getParameterTypes()) {
                text.append(text.charAt(text.length() - 1) == '(' ? "" : ",").append(type.getName());
            }
            found.add(text.append(')').append(method.getReturnType().getName()).toString());
            names.add(method.getName());
            Due.same(method.getName() + " is public", Modifier.isPublic(method.getModifiers()) ? 1 : 0, 1);
        }
        Due.sameText("methods", found.toString(), new TreeSet<>(Arrays.asList(METHODS)).toString());
        for (Method method : HalftoneScreens.class.getDeclaredMethods()) {
            if (Modifier.isPrivate(method.getModifiers())) {
                Due.same(method.getName() + " is no public name", names.contains(method.getName()) ? 1 : 0, 0);
            }
        }
    }

    private static void others() {
        for (Field field : HalftoneScreens.class.getDeclaredFields()) {
            boolean isOpen = !Modifier.isPrivate(field.getModifiers());
            Due.same(field.getName() + " is open", isOpen ? 1 : 0, field.getName().equals("NONE") ? 1 : 0);
            if (Modifier.isStatic(field.getModifiers())) {
                Due.same(field.getName() + " is final", Modifier.isFinal(field.getModifiers()) ? 1 : 0, 1);
            }
        }
        for (Constructor<?> constructor : HalftoneScreens.class.getDeclaredConstructors()) {
            Due.same("parameters of the constructor", constructor.getParameterCount(), 0);
        }
        Due.same("final", Modifier.isFinal(HalftoneScreens.class.getModifiers()) ? 1 : 0, 1);
        for (Class<?> inside : HalftoneScreens.class.getDeclaredClasses()) {
            Due.same(inside.getName() + " is static", Modifier.isStatic(inside.getModifiers()) ? 1 : 0, 1);
            Due.same(inside.getName() + " is private", Modifier.isPrivate(inside.getModifiers()) ? 1 : 0, 1);
            Due.same("fields of " + inside.getName() + " are few", inside.getDeclaredFields().length <= 20 ? 1 : 0, 1);
        }
    }

    private static void text(String source) {
        for (String word : FOREIGN) {
            Due.same("places with " + word, source.indexOf(word), -1);
        }
    }

    /** Reflection does not tell the order of a throws clause, so the lines themselves are compared. */
    private static void asDocumented(String source, String document) {
        int start = document.indexOf("public final class HalftoneScreens {");
        int end = document.indexOf("```", start);
        List<String> lines = Arrays.asList(document.substring(start, end).split("\n"));
        Due.same("lines of the face", lines.size(), METHODS.length + 4);
        for (String line : lines) {
            String due = line.endsWith(");") || line.endsWith("Exception;") ? line.replace(";", " {") : line;
            Due.same("the class has the line " + due, source.contains("\n" + due + "\n") ? 1 : 0, 1);
        }
    }

    private static void library(String source) {
        Set<String> own = new TreeSet<>();
        own.add(HalftoneScreens.class.getSimpleName());
        for (Class<?> inside : HalftoneScreens.class.getDeclaredClasses()) {
            own.add(inside.getSimpleName());
        }
        Due.same("classes are few", own.size() <= 12 ? 1 : 0, 1);
        String code = COMMENT.matcher(source).replaceAll("");
        Matcher names = CAPITAL.matcher(code);
        while (names.find()) {
            String name = names.group();
            boolean known = LIBRARY.contains(name) || own.contains(name.replaceAll("\\..*", ""));
            Due.same(name + " is listed in LANGUAGE.md or the class's own", known ? 1 : 0, 1);
        }
    }

    private static void sizes(String source) {
        Due.same("parameters are few", mostParameters() <= MOST_PARAMETERS ? 1 : 0, 1);
        String end = "";
        int start = 0;
        int methods = 0;
        String[] lines = source.split("\n");
        for (int number = 0; number < lines.length; number++) {
            if (!end.isEmpty() && lines[number].equals(end)) {
                Due.same("few lines up to line " + (number + 1), number - start < MOST_LINES ? 1 : 0, 1);
                end = "";
            } else if (end.isEmpty() && METHOD.matcher(lines[number]).matches()) {
                end = lines[number].replaceAll("\\S.*", "}");
                start = number;
                methods++;
            }
        }
        Due.same("there are methods", methods >= METHODS.length ? 1 : 0, 1);
    }

    private static int mostParameters() {
        int most = 0;
        for (Method method : HalftoneScreens.class.getDeclaredMethods()) {
            most = Math.max(most, method.getParameterCount());
        }
        for (Class<?> inside : HalftoneScreens.class.getDeclaredClasses()) {
            for (Method method : inside.getDeclaredMethods()) {
                most = Math.max(most, method.getParameterCount());
            }
        }
        return most;
    }

    public static void main(String[] args) throws IOException {
        String source = Files.readString(Path.of(args.length > 0 ? args[0] : "src/main/java/HalftoneScreens.java"));
        String document = Files.readString(Path.of(args.length > 1 ? args[1] : "../shared/DOC.md")).replace("\r", "");
        methods();
        others();
        text(source);
        asDocumented(source, document);
        library(source);
        sizes(source);
        Due.finish("FaceTest");
    }
}
