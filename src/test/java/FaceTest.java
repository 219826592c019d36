import java.io.IOException;
import java.lang.reflect.Constructor;
import java.lang.reflect.Field;
import java.lang.reflect.Method;
import java.lang.reflect.Modifier;
import java.nio.file.Files;
import java.nio.file.Path;
import java.util.Arrays;
import java.util.Set;
import java.util.TreeSet;

/** The public face and the plain rules of LANGUAGE.md that can be seen in the class or its text. */
public final class FaceTest {
    private static final String[] METHODS = {"append(int)int", "clearInput()int", "firstError()int", "load(int)int",
        "setScreen(int,int,int,int,int,int)int", "remove(int)int", "setCenter(int,boolean)int", "turn(int,int)int",
        "shorten(int)int", "setTint(int,int)int", "setGain(int)int", "screen(int,int)int", "place(int,int,int)int",
        "growth(int,int,int)int", "placeOf(int,int)int", "pixel(int,int)int", "inked(int,int,int,int,int)int",
        "dots(int,int)int", "joined(int,int)int", "firstJoined(int,int)int", "strength(int,int)int",
        "meanStrength(int)double", "compensated(int,int)int", "period(int,int)int", "beat(int,int,int)int",
        "mixture(int)int", "nearest(int,int,int,int)int", "count(int)int", "digest()long"};
    private static final String[] FOREIGN = {"import ", "package ", "->", "::", "finally", "synchronized", "assert ",
        "try {", "catch", "System.out", "System.nanoTime", "Math.random", "Exact", "protected", "record ", " toString"};

    private FaceTest() {
    }

    private static void methods() {
        Set<String> found = new TreeSet<>();
        Set<String> names = new TreeSet<>();
        for (Method method : HalftoneScreens.class.getDeclaredMethods()) {
            if (Modifier.isPrivate(method.getModifiers())) {
                continue;
            }
            StringBuilder text = new StringBuilder(method.getName()).append('(');
            for (Class<?> type : method.getParameterTypes()) {
                text.append(text.charAt(text.length() - 1) == '(' ? "" : ",").append(type.getName());
            }
            found.add(text.append(')').append(method.getReturnType().getName()).toString());
            names.add(method.getName());
            Due.same(method.getName() + " is public", Modifier.isPublic(method.getModifiers()) ? 1 : 0, 1);
        }
        Due.sameText("methods", found.toString(), new TreeSet<>(Arrays.asList(METHODS)).toString());
        for (Method method : HalftoneScreens.class.getDeclaredMethods()) {
            if (Modifier.isPrivate(method.getModifiers())) {
                Due.same(method.getName() + " is no public name", names.contains(method.getName()) ? 1 : 0, 0);
            }
        }
    }

    private static void others() {
        for (Field field : HalftoneScreens.class.getDeclaredFields()) {
            boolean isOpen = !Modifier.isPrivate(field.getModifiers());
            Due.same(field.getName() + " is open", isOpen ? 1 : 0, field.getName().equals("NONE") ? 1 : 0);
            if (Modifier.isStatic(field.getModifiers())) {
                Due.same(field.getName() + " is final", Modifier.isFinal(field.getModifiers()) ? 1 : 0, 1);
            }
        }
        for (Constructor<?> constructor : HalftoneScreens.class.getDeclaredConstructors()) {
            Due.same("parameters of the constructor", constructor.getParameterCount(), 0);
        }
        Due.same("final", Modifier.isFinal(HalftoneScreens.class.getModifiers()) ? 1 : 0, 1);
        for (Class<?> inside : HalftoneScreens.class.getDeclaredClasses()) {
            Due.same(inside.getName() + " is static", Modifier.isStatic(inside.getModifiers()) ? 1 : 0, 1);
            Due.same(inside.getName() + " is private", Modifier.isPrivate(inside.getModifiers()) ? 1 : 0, 1);
            Due.same("fields of " + inside.getName() + " are few", inside.getDeclaredFields().length <= 20 ? 1 : 0, 1);
        }
    }

    private static void text(String path) throws IOException {
        String source = Files.readString(Path.of(path));
        for (String word : FOREIGN) {
            Due.same("places with " + word, source.indexOf(word), -1);
        }
    }

    public static void main(String[] args) throws IOException {
        methods();
        others();
        text(args.length > 0 ? args[0] : "src/main/java/HalftoneScreens.java");
        Due.finish("FaceTest");
    }
}
