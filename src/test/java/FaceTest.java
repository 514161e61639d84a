import java.io.IOException;
import java.lang.reflect.Constructor;
import java.lang.reflect.Field;
import java.lang.reflect.Method;
import java.lang.reflect.Modifier;
import java.nio.charset.StandardCharsets;
import java.nio.file.Files;
import java.nio.file.Path;
import java.util.Set;
import java.util.TreeSet;
import java.util.regex.Matcher;
import java.util.regex.Pattern;

/** The public face, and those rules of LANGUAGE.md that can be read off the text; run from the project's root. */
public final class FaceTest {
    private static final String[] METHODS = {
        "int act(int, int, int)", "int assume(int)", "int bits(int)", "int bound(int, boolean)", "int certain(int)",
        "int choose(int, int, int)", "int claim(int)", "int clear()", "int constant(int, int)", "int core(int)",
        "int cores()", "int count(int)", "int cut(int, int, int)", "int great()", "int models()", "int pop()",
        "int push()", "int release()", "int same(int, int)", "int size(int, int)", "int value(int, int)",
        "int values(int)", "int where(int, int)", "int widen(int, int, boolean)", "int without(int, boolean)",
        "int word(int)",
    };
    private static int wrong = 0;

    private static void due(String what, Object got, Object want) {
        if (!got.equals(want)) {
            wrong++;
            System.out.println(what + " is " + got + ", due is " + want);
        }
    }

    public static void main(String[] args) throws IOException {
        publicFace();
        classesInside();
        text(withoutComments(Files.readString(Path.of("src/main/java/BitSolver.java"), StandardCharsets.UTF_8)));
        System.out.println(wrong == 0 ? "the face is as due" : wrong + " faults");
        if (wrong != 0) {
            System.exit(1);
        }
    }

    private static void publicFace() {
        due("the class", Modifier.toString(BitSolver.class.getModifiers()), "public final");
        Set<String> methods = new TreeSet<>();
        Set<String> publicNames = new TreeSet<>();
        for (Method m : BitSolver.class.getDeclaredMethods()) {
            if (!Modifier.isPrivate(m.getModifiers())) {
                due("modifiers of " + m.getName(), Modifier.toString(m.getModifiers()), "public");
                publicNames.add(m.getName());
                methods.add(signature(m));
            }
        }
        due("the methods", methods, new TreeSet<>(Set.of(METHODS)));
        for (Method m : BitSolver.class.getDeclaredMethods()) {
            if (Modifier.isPrivate(m.getModifiers())) {
                due("private " + m.getName() + " named as a public one", publicNames.contains(m.getName()), false);
            }
            due(m.getName() + " takes seven parameters at most", m.getParameterCount() <= 7, true);
        }
        Constructor<?>[] makers = BitSolver.class.getDeclaredConstructors();
        due("constructors", makers.length, 1);
        due("constructor", makers[0].toString(), "public BitSolver()");
        Set<String> fields = new TreeSet<>();
        for (Field f : BitSolver.class.getDeclaredFields()) {
            if (!Modifier.isPrivate(f.getModifiers())) {
                fields.add(Modifier.toString(f.getModifiers()) + " " + f.getType() + " " + f.getName());
            }
        }
        due("the constants", fields, new TreeSet<>(Set.of(
            "public static final int NONE", "public static final int BAD", "public static final int FULL")));
    }

    private static String signature(Method m) {
        StringBuilder text = new StringBuilder(m.getReturnType() + " " + m.getName() + "(");
        for (Class<?> type : m.getParameterTypes()) {
            text.append(text.charAt(text.length() - 1) == '(' ? "" : ", ").append(type);
        }
        return text.append(')').toString();
    }

    private static void classesInside() {
        Class<?>[] inside = BitSolver.class.getDeclaredClasses();
        due("at most twelve classes", inside.length < 12, true);
        for (Class<?> c : inside) {
            due(c + " is static", Modifier.isStatic(c.getModifiers()), true);
            due(c + " is public or protected", Modifier.isPublic(c.getModifiers()) || Modifier.isProtected(c.getModifiers()), false);
            for (Field f : c.getDeclaredFields()) {
                due(f + " is static and can change", Modifier.isStatic(f.getModifiers()) && !Modifier.isFinal(f.getModifiers()), false);
            }
        }
    }

    private static String withoutComments(String text) {
        return Pattern.compile("/\\*.*?\\*/|//[^\n]*", Pattern.DOTALL).matcher(text).replaceAll(" ");
    }

    private static void text(String text) {
        String[] forbidden = {"throw", "throws", "try", "catch", "finally", "synchronized", "assert", "package", "Random",
            "Thread", "hashCode", "toString", "float", "double", "\\w+Exact", "->", "::", "System\\.(?!arraycopy)\\w+",
            "protected", "volatile", "transient", "native", "@\\w+", "java\\.(?!util\\.Arrays;)[\\w.]+"};
        for (String word : forbidden) {
            Matcher m = Pattern.compile(Character.isLetter(word.charAt(0)) ? "\\b" + word + "\\b" : word).matcher(text);
            due("the text with " + word, m.find(), false);
        }
    }
}
