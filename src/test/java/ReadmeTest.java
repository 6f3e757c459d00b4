import java.io.IOException;
import java.lang.reflect.InvocationTargetException;
import java.lang.reflect.Method;
import java.lang.reflect.Modifier;
import java.nio.file.Files;
import java.nio.file.Path;
import java.util.List;
import java.util.regex.Matcher;
import java.util.regex.Pattern;

/** The answers that stand in README.md, and that it tells of each method what is thrown. */
public final class ReadmeTest {
    /** x.name(arguments); // the answer, and maybe words */
    private static final Pattern CALL = Pattern.compile("x\\.(\\w+)\\(([^)]*)\\); +// (-?\\d+)\\b.*");

    public static void main(String[] args) throws IOException, ReflectiveOperationException {
        List<String> lines = Files.readAllLines(Path.of("README.md"));
        RootedRing x = new RootedRing();
        int calls = 0;
        for (String line : lines) {
            Matcher found = CALL.matcher(line);
            if (found.matches()) {
                calls++;
                Check.is(line, () -> call(x, found.group(1), found.group(2)), Integer.parseInt(found.group(3)));
            } else {
                Check.same("no answer behind " + line, line.startsWith("x.") ? 1 : 0, 0);
            }
        }
        Check.same("README.md has calls", calls > 10 ? 1 : 0, 1);
        Check.same("said as README.md tells it", lines.toString().contains("\"" + said(x) + "\"") ? 1 : 0, 1);
        thrown(lines);
        Check.end("ReadmeTest");
    }

    private static int call(RootedRing x, String name, String arguments) {
        String[] told = arguments.isEmpty() ? new String[0] : arguments.split(", ");
        for (Method method : RootedRing.class.getMethods()) {
            if (method.getName().equals(name) && method.getParameterCount() == told.length) {
                Object[] given = new Object[told.length];
                for (int i = 0; i < told.length; i++) {
                    given[i] = method.getParameterTypes()[i] == boolean.class ? (Object) told[i].equals("true")
                        : told[i].equals("RootedRing.NONE") ? RootedRing.NONE : Integer.decode(told[i]);
                }
                try {
                    return (int) method.invoke(x, given);
                } catch (InvocationTargetException e) {
                    throw (RuntimeException) e.getCause();
                } catch (IllegalAccessException e) {
                    break;
                }
            }
        }
        throw new UnsupportedOperationException(name);
    }

    private static String said(RootedRing x) {
        StringBuilder bytes = new StringBuilder();
        for (int i = 0; x.said(i) != RootedRing.NONE; i++) {
            bytes.append((char) x.said(i));
        }
        return bytes.toString();
    }

    /** Each method stands in the row of what it throws by its throws clause, or in the line of those without. */
    private static void thrown(List<String> lines) {
        for (Method method : RootedRing.class.getDeclaredMethods()) {
            if (Modifier.isPublic(method.getModifiers())) {
                Class<?>[] all = method.getExceptionTypes();
                String due = all.length == 0 ? "throw nothing" : "`" + all[0].getSimpleName() + "`";
                boolean told = false;
                for (String line : lines) {
                    told |= line.contains("`" + method.getName() + "`") && line.contains(due);
                }
                Check.same("README.md tells what " + method.getName() + " throws", told ? 1 : 0, 1);
            }
        }
    }
}
