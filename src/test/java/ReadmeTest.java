import java.io.IOException;
import java.lang.reflect.InvocationTargetException;
import java.lang.reflect.Method;
import java.lang.reflect.Modifier;
import java.nio.charset.StandardCharsets;
import java.nio.file.Files;
import java.nio.file.Path;
import java.util.regex.Matcher;
import java.util.regex.Pattern;

/** README.md's calls answer what it says behind them, and it names all calls; run from the project's root. */
public final class ReadmeTest {
    public static void main(String[] args) throws IOException, IllegalAccessException {
        String readme = Files.readString(Path.of("README.md"), StandardCharsets.UTF_8);
        Matcher call = Pattern.compile("roofs\\.(\\w+)\\(([^)]*)\\); +// (throws \\w+|-?\\d+)").matcher(readme);
        EaveRoofs roofs = new EaveRoofs();
        int calls = 0;
        while (call.find()) {
            calls++;
            Check.same(call.group(), answer(roofs, call.group(1), call.group(2)), call.group(3));
        }
        Check.eq("calls", calls, readme.split("\nroofs\\.").length - 1);
        for (Method method : EaveRoofs.class.getDeclaredMethods()) {
            Check.yes("named: " + method.getName(), Modifier.isPrivate(method.getModifiers())
                    || readme.contains("`" + method.getName() + "`"));
        }
        Check.yes("how to run the tests", readme.contains("\n    .ci/run\n"));
        Check.end();
    }

    private static String answer(EaveRoofs roofs, String name, String list) throws IllegalAccessException {
        String[] told = list.isEmpty() ? new String[0] : list.split(", ");
        Object[] values = new Object[told.length];
        for (int i = 0; i < told.length; i++) {
            values[i] = told[i].matches("true|false") ? (Object) Boolean.valueOf(told[i]) : Integer.decode(told[i]);
        }
        for (Method method : EaveRoofs.class.getDeclaredMethods()) {
            if (method.getName().equals(name)) {
                try {
                    return String.valueOf(method.invoke(roofs, values));
                } catch (InvocationTargetException thrown) {
                    return "throws " + thrown.getCause().getClass().getSimpleName();
                }
            }
        }
        return "no such call";
    }
}
