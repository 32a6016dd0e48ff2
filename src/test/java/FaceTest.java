import java.lang.reflect.Constructor;
import java.lang.reflect.Field;
import java.lang.reflect.Method;
import java.lang.reflect.Modifier;
import java.nio.file.Files;
import java.nio.file.Path;
import java.util.ArrayList;
import java.util.Collections;
import java.util.List;

/** The class shows the face that the document prints, and nothing besides. */
final class FaceTest {
    private FaceTest() {
    }

    static void run(Path document) throws Exception {
        Check.promise(0);
        Check.equal("the face", due(document), shown());
        Check.equal("the class", "public final", Modifier.toString(ParcelDepot.class.getModifiers()));
        List<String> publicNames = new ArrayList<>();
        for (Method method : ParcelDepot.class.getMethods()) {
            publicNames.add(method.getName());
        }
        for (Method method : ParcelDepot.class.getDeclaredMethods()) {
            if (Modifier.isPrivate(method.getModifiers())) {
                Check.holds(method.getName() + " bearing a name of its own", !publicNames.contains(method.getName()));
            }
        }
        for (Field field : ParcelDepot.class.getDeclaredFields()) {
            Check.holds(field.getName() + " being private", Modifier.isPrivate(field.getModifiers()));
        }
    }

    private static List<String> due(Path document) throws Exception {
        String text = Files.readString(document);
        int start = text.indexOf("{\n", text.indexOf("```java")) + 2;
        List<String> lines = new ArrayList<>();
        for (String line : text.substring(start, text.indexOf("\n}\n", start)).split("\n")) {
            lines.add(withoutArgumentNames(line.strip()));
        }
        Collections.sort(lines);
        return lines;
    }

    private static String withoutArgumentNames(String line) {
        return line.replaceAll("(int|char) \\w+(?=[,)])", "$1").replaceAll("[;,]", "");
    }

    private static List<String> shown() {
        List<String> lines = new ArrayList<>();
        for (Constructor<?> constructor : ParcelDepot.class.getDeclaredConstructors()) {
            lines.add(Modifier.toString(constructor.getModifiers()) + " ParcelDepot"
                    + arguments(constructor.getParameterTypes(), constructor.getExceptionTypes()));
        }
        for (Method method : ParcelDepot.class.getDeclaredMethods()) {
            if (!Modifier.isPrivate(method.getModifiers()) && !method.isSynthetic()) {
                lines.add(Modifier.toString(method.getModifiers()) + " " + method.getReturnType() + " "
                        + method.getName() + arguments(method.getParameterTypes(), method.getExceptionTypes()));
            }
        }
        Collections.sort(lines);
        return lines;
    }

    private static String arguments(Class<?>[] parameters, Class<?>[] exceptions) {
        StringBuilder text = new StringBuilder("(");
        for (int index = 0; index < parameters.length; index++) {
            text.append(index == 0 ? "" : " ").append(parameters[index]);
        }
        text.append(exceptions.length == 0 ? ")" : ") throws");
        for (Class<?> exception : exceptions) {
            text.append(' ').append(exception.getSimpleName());
        }
        return text.toString();
    }
}
