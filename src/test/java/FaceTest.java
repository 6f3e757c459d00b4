import java.io.IOException;
import java.lang.reflect.Constructor;
import java.lang.reflect.Field;
import java.lang.reflect.Method;
import java.lang.reflect.Modifier;
import java.nio.file.Files;
import java.nio.file.Path;
import java.util.StringJoiner;
import java.util.TreeSet;

/** The public face: what ../shared/DOC.md tells of it, no more and no less. */
public final class FaceTest {
    private static final String WORD = " \\w+(?=[,)])";

    public static void main(String[] args) throws IOException, IllegalAccessException {
        TreeSet<String> due = new TreeSet<>();
        for (String line : Files.readAllLines(Path.of("../shared/DOC.md"))) {
            if (line.startsWith("    public ")) {
                due.add(line.strip().replaceAll(WORD, "").replaceAll(" = .*", "").replace(";", ""));
            }
        }
        TreeSet<String> got = new TreeSet<>();
        for (Method method : RootedRing.class.getDeclaredMethods()) {
            if (isSeen(method.getModifiers()) && !method.isSynthetic()) {
                got.add(Modifier.toString(method.getModifiers()) + " " + method.getReturnType() + " " + method.getName()
                    + names(method.getParameterTypes(), "(", ")") + names(method.getExceptionTypes(), " throws ", ""));
            }
        }
        for (Constructor<?> made : RootedRing.class.getDeclaredConstructors()) {
            got.add(Modifier.toString(made.getModifiers()) + " RootedRing" + names(made.getParameterTypes(), "(", ")"));
        }
        for (Field field : RootedRing.class.getDeclaredFields()) {
            if (isSeen(field.getModifiers())) {
                got.add(Modifier.toString(field.getModifiers()) + " " + field.getType() + " " + field.getName());
            }
        }
        for (String one : due) {
            Check.same("there is no " + one, got.contains(one) ? 1 : 0, 1);
        }
        for (String one : got) {
            Check.same("not in the document: " + one, due.contains(one) ? 1 : 0, 1);
        }
        Check.same("methods, the constructor and NONE", due.size(), 31);
        Check.same("NONE", RootedRing.class.getFields()[0].getInt(null), -1);
        Check.same("public final", RootedRing.class.getModifiers(), Modifier.PUBLIC | Modifier.FINAL);
        Check.end("FaceTest");
    }

    private static boolean isSeen(int modifiers) {
        return !Modifier.isPrivate(modifiers);
    }

    private static String names(Class<?>[] types, String before, String behind) {
        StringJoiner all = new StringJoiner(", ", before, behind);
        for (Class<?> type : types) {
            all.add(type.getSimpleName());
        }
        return types.length == 0 && behind.isEmpty() ? "" : all.toString();
    }
}
