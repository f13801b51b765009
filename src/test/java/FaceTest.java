import java.io.IOException;
import java.lang.reflect.Constructor;
import java.lang.reflect.Field;
import java.lang.reflect.Method;
import java.lang.reflect.Modifier;
import java.nio.file.Files;
import java.nio.file.Path;
import java.util.Arrays;
import java.util.Set;
import java.util.TreeSet;
import java.util.regex.Matcher;
import java.util.regex.Pattern;

/** The public face of the document, and those rules of LANGUAGE.md that can be seen from outside or word by word. */
public final class FaceTest {
    private static final Set<String> METHODS = Set.of(
        "int rule(int, int)", "int spar(int, int, int, int, int)", "int plan(int, int, int, int)", "int about(int, int)",
        "int over(int, int)", "int stack(int)", "int fits(int)", "int thread(int, int, int)", "int cut(int)",
        "int threaded(int, int)", "int cross(int, int)", "int raise(int)", "int lay(int)", "int settle()",
        "int order(int)", "int rising(int)", "int rig()", "int sheet(int, int, int)", "int lose(int)",
        "int put(int, int, int)", "long cell(int, int, int)", "int copy(int, int, int, int, int)", "int tell(int)",
        "int name(int)", "int as(int, int)", "int trace()", "int fault()", "int told(int)");
    private static final Set<String> CONSTANTS = Set.of("UNKNOWN = -1", "OUTSIDE = -2", "STATE = -3", "FULL = -4",
        "NONE = -9", "LOST = -9223372036854775808");
    private static final String[] BARRED = {"\\bthrow\\b", "\\btry\\b", "\\bcatch\\b", "\\bsynchronized\\b",
        "\\bassert\\b", "->", "::", "\\bpackage\\b", "Exact\\b", "\\bprotected\\b", "\\bhashCode\\b", "\\btoString\\b"};

    private static int wrong = 0;

    private static void check(boolean holds, String what) {
        if (!holds) {
            wrong++;
            System.out.println("wrong: " + what);
        }
    }

    public static void main(String[] args) throws IOException, IllegalAccessException {
        checkMethods();
        checkConstants();
        checkClasses();
        checkText(Files.readString(Path.of("src/main/java/NeckShip.java")));
        System.out.println(wrong == 0 ? "the face is as told" : wrong + " things are wrong");
        if (wrong != 0) {
            System.exit(1);
        }
    }

    private static void checkMethods() {
        Set<String> found = new TreeSet<>();
        Set<String> names = new TreeSet<>();
        for (Method m : NeckShip.class.getDeclaredMethods()) {
            if (Modifier.isPublic(m.getModifiers())) {
                check(!Modifier.isStatic(m.getModifiers()), m.getName() + " is static");
                found.add(m.getReturnType() + " " + m.getName() + typesOf(m));
                names.add(m.getName());
            }
        }
        check(found.equals(new TreeSet<>(METHODS)), "methods " + found);
        for (Class<?> inner : NeckShip.class.getDeclaredClasses()) {
            for (Method m : inner.getDeclaredMethods()) {
                check(!names.contains(m.getName()), inner + " bears the name " + m.getName());
            }
        }
        for (Method m : NeckShip.class.getDeclaredMethods()) {
            boolean isPublic = Modifier.isPublic(m.getModifiers());
            check(isPublic || Modifier.isPrivate(m.getModifiers()), m.getName() + " is neither public nor private");
            check(isPublic || !names.contains(m.getName()), "a private method bears the name " + m.getName());
        }
    }

    private static String typesOf(Method m) {
        return Arrays.toString(m.getParameterTypes()).replace('[', '(').replace(']', ')');
    }

    private static void checkConstants() throws IllegalAccessException {
        Set<String> found = new TreeSet<>();
        for (Field f : NeckShip.class.getDeclaredFields()) {
            if (Modifier.isPublic(f.getModifiers())) {
                check(Modifier.isStatic(f.getModifiers()) && Modifier.isFinal(f.getModifiers()), f + " is no constant");
                check((f.getType() == long.class) == f.getName().equals("LOST"), f + " is of another type");
                found.add(f.getName() + " = " + f.get(null));
            } else {
                check(Modifier.isPrivate(f.getModifiers()), f + " is not private");
            }
        }
        check(found.equals(new TreeSet<>(CONSTANTS)), "constants " + found);
    }

    private static void checkClasses() {
        check(Modifier.isPublic(NeckShip.class.getModifiers()) && Modifier.isFinal(NeckShip.class.getModifiers()),
            "the class is not public and final");
        Constructor<?>[] made = NeckShip.class.getDeclaredConstructors();
        check(made.length == 1 && made[0].getParameterCount() == 0 && Modifier.isPublic(made[0].getModifiers()),
            "constructors");
        Class<?>[] inner = NeckShip.class.getDeclaredClasses();
        check(inner.length < 12, "too many classes");
        for (Class<?> c : inner) {
            check(Modifier.isStatic(c.getModifiers()) && !Modifier.isPublic(c.getModifiers()), c + " is not static");
            check(c.getDeclaredFields().length <= 20, c + " has too many fields");
            for (Field f : c.getDeclaredFields()) {
                check(!Modifier.isStatic(f.getModifiers()) || Modifier.isFinal(f.getModifiers()), f + " is static state");
            }
        }
    }

    private static void checkText(String text) {
        String code = text.replaceAll("(?s)/\\*.*?\\*/", "").replaceAll("//[^\n]*", "");
        for (String barred : BARRED) {
            Matcher m = Pattern.compile(barred).matcher(code);
            check(!m.find(), "the file has " + barred);
        }
        Matcher imports = Pattern.compile("import\\s+([^;]+);").matcher(code);
        while (imports.find()) {
            check(imports.group(1).equals("java.util.Arrays"), "the file takes " + imports.group(1));
        }
        checkRecursion(code);
    }

    /** A method that calls itself is private and static, and carries its depth as an argument. */
    private static void checkRecursion(String code) {
        Matcher heads = Pattern.compile("\\n +([\\w ]+?) (\\w+)\\(([^()]*)\\) \\{").matcher(code);
        int methods = 0;
        while (heads.find()) {
            String name = heads.group(2);
            if (name.equals("if") || name.equals("for") || name.equals("switch")) {
                continue;
            }
            methods++;
            if (bodyFrom(code, heads.end()).matches("(?s).*(?<![\\w.])" + name + "\\(.*")) {
                check(heads.group(1).startsWith("private static ") && heads.group(3).contains("int "),
                    name + " calls itself, and is not private and static");
            }
        }
        check(methods > METHODS.size(), "only " + methods + " methods were found");
    }

    private static String bodyFrom(String code, int start) {
        int open = 1;
        int end = start;
        while (open > 0 && end < code.length()) {
            char c = code.charAt(end++);
            open += c == '{' ? 1 : c == '}' ? -1 : 0;
        }
        return code.substring(start, end);
    }
}
