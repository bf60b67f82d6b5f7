import java.io.IOException;
import java.lang.reflect.Constructor;
import java.lang.reflect.Field;
import java.lang.reflect.Method;
import java.lang.reflect.Modifier;
import java.nio.file.Files;
import java.nio.file.Path;
import java.util.Arrays;
import java.util.List;
import java.util.Set;
import java.util.TreeSet;
import java.util.stream.Collectors;

/** The public face of the document, and those rules of LANGUAGE.md that can be seen from outside or by words. */
public final class FaceTest {
    private static final String[] FACE = {
        "boolean land(int, int)", "int water(int, int)", "int sheet(int, int, int, int, int)", "int map(int)",
        "boolean own(int, int, int, int, int)", "int deed(int, int, int, int, int, int)",
        "boolean strike(int, boolean)", "int law(int, int, int, int)", "int reach(int)",
        "boolean judge(int, int)", "int count(int)", "int wet(int, int, int)", "int owner(int, int, int)",
        "int area(int, int)", "int front(int, int)", "int tax(int, int, int)", "int chain(int, int)",
        "int banks(int)", "int step(int, int)", "int moved(int, int) throws java.util.NoSuchElementException",
        "int doubt(int, int)", "int weak(int)", "int row(int) throws java.util.NoSuchElementException"};
    private static final String[] FORBIDDEN = {"->", "::", "finally", "synchronized", "assert ", " try {", "catch (",
        "static {", "Exact(", "lambda", "Thread", "System.out", "System.nano", "Random", "double ", "float "};
    private static final Check check = new Check();

    public static void main(String[] args) throws IOException {
        members();
        names();
        statics();
        words(Files.readAllLines(Path.of("src/main/java/MovingBanks.java")));
        check.end();
    }

    private static void members() {
        Class<?> c = MovingBanks.class;
        check.due("the class is public and final", c.getModifiers(), Modifier.PUBLIC | Modifier.FINAL);
        Set<String> got = new TreeSet<>();
        for (Method m : c.getDeclaredMethods()) {
            if (!Modifier.isPrivate(m.getModifiers())) {
                check.due(m.getName() + " is public and no more", m.getModifiers(), Modifier.PUBLIC);
                got.add(signature(m));
            }
        }
        Set<String> want = new TreeSet<>(List.of(FACE));
        for (String s : want) {
            check.due("has " + s, got.contains(s), true);
        }
        check.due("no other method", got.size(), want.size());
        Constructor<?>[] makers = c.getDeclaredConstructors();
        check.due("one constructor", makers.length, 1);
        check.due("which is public", makers[0].getModifiers(), Modifier.PUBLIC);
        check.due("without parameters", makers[0].getParameterCount(), 0);
        for (Field f : c.getDeclaredFields()) {
            boolean isNone = f.getName().equals("NONE");
            check.due(f.getName() + " is private, but for NONE", Modifier.isPrivate(f.getModifiers()), !isNone);
        }
        check.due("NONE", MovingBanks.NONE, -1);
    }

    private static String signature(Method m) {
        String types = Arrays.stream(m.getParameterTypes()).map(Class::getName).collect(Collectors.joining(", "));
        String thrown = Arrays.stream(m.getExceptionTypes()).map(Class::getName).collect(Collectors.joining(", "));
        return m.getReturnType().getName() + " " + m.getName() + "(" + types + ")"
                + (thrown.isEmpty() ? "" : " throws " + thrown);
    }

    private static void names() {
        Set<String> face = new TreeSet<>();
        for (String s : FACE) {
            face.add(s.substring(s.indexOf(' ') + 1, s.indexOf('(')));
        }
        Class<?>[] inside = MovingBanks.class.getDeclaredClasses();
        check.due("rule 11: at most some twelve classes", inside.length < 12, true);
        for (Class<?> c : inside) {
            check.due(c + " is static", Modifier.isStatic(c.getModifiers()), true);
            check.due(c + " is not seen", Modifier.isPublic(c.getModifiers()), false);
            check.due("rule 11: fields of " + c, c.getDeclaredFields().length <= 20, true);
            methodsOf(c, face);
        }
        methodsOf(MovingBanks.class, Set.of());
    }

    private static void methodsOf(Class<?> c, Set<String> face) {
        for (Method m : c.getDeclaredMethods()) {
            check.due("rule 1: the name of " + m, face.contains(m.getName()), false);
            check.due("rule 11: parameters of " + m, m.getParameterCount() <= 7, true);
        }
    }

    private static void statics() {
        for (Field f : MovingBanks.class.getDeclaredFields()) {
            if (Modifier.isStatic(f.getModifiers())) {
                check.due("rule 5: " + f + " is final", Modifier.isFinal(f.getModifiers()), true);
                check.due("rule 5: " + f + " is an int", f.getType() == int.class, true);
            }
        }
    }

    private static void words(List<String> lines) {
        int start = -1;
        for (int i = 0; i < lines.size(); i++) {
            String line = lines.get(i);
            for (String word : FORBIDDEN) {
                check.due("line " + (i + 1) + " has '" + word + "'", line.contains(word), false);
            }
            boolean opens = line.endsWith(") {") || line.endsWith("Exception {");
            if (opens && (line.matches(" {4}[a-z].*") || line.matches(" {8}[a-z].*\\(.*") && start < 0)) {
                start = i;
            }
            if (start >= 0 && (line.equals("    }") || line.equals("        }"))
                    && indent(line) == indent(lines.get(start))) {
                check.due("rule 11: the method at line " + (start + 1) + " is short", i - start <= 60, true);
                start = -1;
            }
        }
    }

    private static int indent(String line) {
        return line.length() - line.stripLeading().length();
    }
}
