import java.io.IOException;
import java.lang.reflect.Field;
import java.lang.reflect.Method;
import java.lang.reflect.Modifier;
import java.nio.file.Files;
import java.nio.file.Path;
import java.util.regex.Matcher;
import java.util.regex.Pattern;

/** What README.md says of the class: the answers of its example, and that it leaves no call out. */
public final class ReadmeTest {
    private static final Pattern EXAMPLE = Pattern.compile("ship\\.(\\w+)\\(([-0-9, ]*)\\);\\s*// (-?\\d+)");
    private static final int LEAST_EXAMPLES = 20;

    private static int wrong = 0;

    private static void check(boolean holds, String what) {
        if (!holds) {
            wrong++;
            System.out.println("wrong: " + what);
        }
    }

    public static void main(String[] args) throws IOException, ReflectiveOperationException {
        String text = Files.readString(Path.of("README.md"));
        checkExample(text);
        checkNames(text);
        System.out.println(wrong == 0 ? "README.md is as the class" : wrong + " things are wrong");
        if (wrong != 0) {
            System.exit(1);
        }
    }

    private static void checkExample(String text) throws ReflectiveOperationException {
        NeckShip ship = new NeckShip();
        int begun = 0;
        int ran = 0;
        for (String line : text.split("\n")) {
            Matcher m = EXAMPLE.matcher(line);
            if (line.startsWith("ship.")) {
                begun++;
            }
            if (m.lookingAt()) {
                long got = ask(ship, m.group(1), m.group(2));
                check(got == Long.parseLong(m.group(3)), line + " answered " + got);
                ran++;
            }
        }
        check(ran == begun && ran >= LEAST_EXAMPLES, "only " + ran + " lines of the example tell an answer");
    }

    private static long ask(NeckShip ship, String name, String written) throws ReflectiveOperationException {
        String[] parts = written.isBlank() ? new String[0] : written.split(",");
        Object[] arguments = new Object[parts.length];
        Class<?>[] types = new Class<?>[parts.length];
        for (int n = 0; n < parts.length; n++) {
            arguments[n] = Integer.parseInt(parts[n].trim());
            types[n] = int.class;
        }
        return ((Number) NeckShip.class.getMethod(name, types).invoke(ship, arguments)).longValue();
    }

    private static void checkNames(String text) {
        for (Method m : NeckShip.class.getDeclaredMethods()) {
            if (Modifier.isPublic(m.getModifiers())) {
                check(text.contains("| `" + m.getName() + "("), "README.md leaves out " + m.getName());
            }
        }
        for (Field f : NeckShip.class.getDeclaredFields()) {
            if (Modifier.isPublic(f.getModifiers())) {
                check(text.contains("`" + f.getName() + "`"), "README.md leaves out " + f.getName());
            }
        }
    }
}
