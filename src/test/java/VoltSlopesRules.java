import java.lang.reflect.Constructor;
import java.lang.reflect.Field;
import java.lang.reflect.Member;
import java.lang.reflect.Method;
import java.lang.reflect.Modifier;
import java.nio.file.Files;
import java.nio.file.Path;
import java.util.Arrays;
import java.util.Set;
import java.util.TreeSet;
import java.util.regex.Matcher;
import java.util.regex.Pattern;

/** The face of the class, and those rules of LANGUAGE.md that can be seen from outside; run from the project's root. */
public final class VoltSlopesRules {
    private static final String[] FACE = {
        "int letter(int)", "int blank()", "int fault()", "int set()", "int dc(int)", "int hum(int,int)", "int noise(int)",
        "int seed(int)", "int amplifier(int,int)", "int correct(int,int)", "int go(int)", "int convert(int)",
        "int sweep(int,int,int)", "int clear()", "int latest(int)", "int reading(int,int)", "int filter(int)",
        "int held(int,int)", "int about(int)", "int zero(int,int)", "int input(int)", "int count(int)", "long digest()",
    };
    private static final String[] FORBIDDEN = {
        "\\bthrow\\b", "\\bthrows\\b", "\\btry\\b", "\\bcatch\\b", "\\bsynchronized\\b", "\\bassert\\b", "->", "::", "\\bimport\\b",
        "\\bpackage\\b", "\\bdouble\\b", "\\bfloat\\b", "\\bSystem\\b", "\\bThread\\b", "Exact\\b", "\\bstatic\\s*\\{", "while \\(true\\)",
        "\\bhashCode\\b", "\\btoString\\b", "\\bprotected\\b",
    };
    private static int wrong = 0;

    public static void main(String[] args) throws Exception {
        face();
        constants();
        classesInside();
        String code = withoutComments(Files.readString(Path.of("src/main/java/VoltSlopes.java")));
        words(code);
        shortMethods(code);
        System.out.println(wrong == 0 ? "the rules are kept" : wrong + " rules are broken");
        if (wrong != 0) {
            System.exit(1);
        }
    }

    private static void must(boolean is, String rule) {
        if (!is) {
            wrong++;
            System.out.println("broken: " + rule);
        }
    }

    private static boolean isPrivate(Member m) {
        return Modifier.isPrivate(m.getModifiers());
    }

    private static void face() {
        Set<String> found = new TreeSet<>();
        Set<String> names = new TreeSet<>();
        for (Method m : VoltSlopes.class.getDeclaredMethods()) {
            if (!isPrivate(m)) {
                String types = String.join(",", Arrays.stream(m.getParameterTypes()).map(Class::getName).toArray(String[]::new));
                found.add(m.getReturnType().getName() + " " + m.getName() + "(" + types + ")");
                names.add(m.getName());
                must(Modifier.isPublic(m.getModifiers()) && !Modifier.isStatic(m.getModifiers()), m.getName() + " is public, not static");
            }
        }
        must(found.equals(new TreeSet<>(Arrays.asList(FACE))), "the face's methods, and no others: " + found);
        for (Method m : VoltSlopes.class.getDeclaredMethods()) {
            must(!isPrivate(m) || !names.contains(m.getName()), "a private method has the face's name " + m.getName());
        }
        Constructor<?>[] made = VoltSlopes.class.getDeclaredConstructors();
        must(made.length == 1 && Modifier.isPublic(made[0].getModifiers()) && made[0].getParameterCount() == 0, "one public constructor");
        must(VoltSlopes.class.getModifiers() == (Modifier.PUBLIC | Modifier.FINAL), "a class that is public and final");
    }

    private static void constants() {
        Set<String> found = new TreeSet<>();
        for (Field f : VoltSlopes.class.getDeclaredFields()) {
            if (!isPrivate(f)) {
                found.add(f.getName());
            }
        }
        must(found.equals(new TreeSet<>(Arrays.asList("NONE", "UNKNOWN", "OUTSIDE", "STATE", "FULL"))), "the face's constants: " + found);
        must(VoltSlopes.NONE == -1 && VoltSlopes.UNKNOWN == -1000000001 && VoltSlopes.OUTSIDE == -1000000002
            && VoltSlopes.STATE == -1000000003 && VoltSlopes.FULL == -1000000004, "what the constants are");
    }

    private static void classesInside() {
        Class<?>[] inside = VoltSlopes.class.getDeclaredClasses();
        must(inside.length <= 11, "some twelve classes at most");
        mayBeHeld(VoltSlopes.class);
        for (Class<?> c : inside) {
            must(Modifier.isStatic(c.getModifiers()) && !Modifier.isPublic(c.getModifiers()), c.getName() + " is static, not public");
            mayBeHeld(c);
        }
    }

    /** Fields and parameters are few, and nothing static can change. */
    private static void mayBeHeld(Class<?> c) {
        int own = 0;
        for (Field f : c.getDeclaredFields()) {
            boolean isStatic = Modifier.isStatic(f.getModifiers());
            own += isStatic ? 0 : 1;
            must(!isStatic || Modifier.isFinal(f.getModifiers()), "static " + f.getName() + " of " + c.getName() + " is final");
        }
        must(own <= 20, c.getName() + " has some twenty fields at most");
        for (Method m : c.getDeclaredMethods()) {
            must(m.getParameterCount() <= 7, m.getName() + " takes seven at most");
        }
    }

    private static String withoutComments(String code) {
        return code.replaceAll("(?s)/\\*.*?\\*/", "").replaceAll("//[^\n]*", "");
    }

    private static void words(String code) {
        for (String word : FORBIDDEN) {
            Matcher m = Pattern.compile(word).matcher(code);
            must(!m.find(), "no " + word + " in the class");
        }
    }

    private static void shortMethods(String code) {
        Matcher m = Pattern.compile("(?m)^( {4}| {8})[a-z][^;=\n]*\\([^;\n]*\\) \\{$(?s:.*?)^\\1\\}$").matcher(code);
        int methods = 0;
        while (m.find()) {
            methods++;
            must(m.group().split("\n").length <= 60, "a method of sixty lines at most: " + m.group().split("\n")[0].trim());
        }
        must(methods > 60, "methods were found: " + methods);
    }
}
