import java.io.IOException;
import java.lang.reflect.Constructor;
import java.lang.reflect.Field;
import java.lang.reflect.Method;
import java.lang.reflect.Modifier;
import java.nio.file.Files;
import java.nio.file.Path;
import java.util.ArrayList;
import java.util.List;
import java.util.TreeSet;
import java.util.regex.Matcher;
import java.util.regex.Pattern;

/** The public face, and of LANGUAGE.md what can be seen from the class and its text. */
public final class FaceTest {
    private static final String[] FACE = {
        "feed int int int int int", "cut int", "make", "place", "method int int", "octet int boolean int",
        "handler int boolean int int", "type int int int", "moved int int", "probe int int int int int", "clear",
        "weave int", "unweave int", "run int int int int int", "told int int", "mark int int", "field int int",
        "record int int int", "records int int", "differ", "count int"};

    public static void main(String[] args) throws IOException {
        face();
        constants();
        inside();
        text(Files.readString(Path.of(System.getProperty("probeloom.source", "src/main/java/ProbeLoom.java"))));
        Kit.end();
    }

    private static void face() {
        Class<?> c = ProbeLoom.class;
        Kit.due("public and final", Modifier.isPublic(c.getModifiers()) && Modifier.isFinal(c.getModifiers()));
        Kit.due("no package", c.getPackageName().isEmpty());
        Constructor<?>[] made = c.getDeclaredConstructors();
        Kit.due("one constructor", made.length, 1);
        Kit.due("a public one without arguments",
                Modifier.isPublic(made[0].getModifiers()) && made[0].getParameterCount() == 0);
        TreeSet<String> got = new TreeSet<>();
        for (Method m : c.getDeclaredMethods()) {
            StringBuilder told = new StringBuilder(m.getName());
            for (Class<?> p : m.getParameterTypes()) {
                told.append(' ').append(p.getName());
            }
            if (!Modifier.isPrivate(m.getModifiers())) {
                got.add(told.toString());
                Kit.due(told + ": public, not static, answers an int", Modifier.isPublic(m.getModifiers())
                        && !Modifier.isStatic(m.getModifiers()) && m.getReturnType() == int.class);
            }
        }
        Kit.due("the document's methods and no others: " + got, got.equals(new TreeSet<>(List.of(FACE))));
    }

    private static void constants() {
        Kit.due("NONE", ProbeLoom.NONE, -1);
        Kit.due("BAD", ProbeLoom.BAD, -2);
        Kit.due("FULL", ProbeLoom.FULL, -3);
        TreeSet<String> seen = new TreeSet<>();
        for (Field f : ProbeLoom.class.getDeclaredFields()) {
            if (!Modifier.isPrivate(f.getModifiers())) {
                seen.add(f.getName());
                Kit.due(f.getName() + " is a public constant", Modifier.isPublic(f.getModifiers())
                        && Modifier.isStatic(f.getModifiers()) && Modifier.isFinal(f.getModifiers()));
            }
        }
        Kit.due("no others: " + seen, seen.equals(new TreeSet<>(List.of("NONE", "BAD", "FULL"))));
    }

    private static void inside() {
        List<Class<?>> all = new ArrayList<>(List.of(ProbeLoom.class.getDeclaredClasses()));
        Kit.due("some twelve classes", all.size() <= 11);
        all.add(ProbeLoom.class);
        TreeSet<String> names = new TreeSet<>();
        for (String told : FACE) {
            names.add(told.split(" ")[0]);
        }
        for (Class<?> c : all) {
            if (c != ProbeLoom.class) {
                Kit.due(c + " is static, not public", Modifier.isStatic(c.getModifiers())
                        && !Modifier.isPublic(c.getModifiers()) && !Modifier.isProtected(c.getModifiers()));
            }
            int fields = 0;
            for (Field f : c.getDeclaredFields()) {
                boolean isStatic = Modifier.isStatic(f.getModifiers());
                fields += isStatic ? 0 : 1;
                Kit.due(f + ": static is final", !isStatic || Modifier.isFinal(f.getModifiers()));
            }
            Kit.due(c + " has some twenty fields", fields <= 20);
            for (Method m : c.getDeclaredMethods()) {
                Kit.due(m + " has at most seven parameters", m.getParameterCount() <= 7);
                Kit.due(m + " bears no name of the face",
                        Modifier.isPublic(m.getModifiers()) || !names.contains(m.getName()));
            }
        }
    }

    private static void text(String source) {
        String bare = source.replaceAll("(?s)/\\*.*?\\*/", "").replaceAll("//[^\n]*", "");
        String[] barred = {"throw", "throws", "try", "catch", "finally", "synchronized", "assert", "package", "float",
            "double", "Object", "Exception", "Error", "System\\.(?!arraycopy)\\w+", "Thread", "Random", "volatile",
            "protected", "import(?! java\\.util\\.Arrays;)", "addExact", "->", "::"};
        for (String word : barred) {
            String pattern = Character.isLetter(word.charAt(0)) ? "\\b" + word + "\\b" : word;
            Kit.due("the text has no " + word, !Pattern.compile(pattern).matcher(bare).find());
        }
        Matcher endless = Pattern.compile("while\\s*\\(\\s*true|for\\s*\\(\\s*;[^;]*;\\s*\\)").matcher(bare);
        Kit.due("no loop without a bound", !endless.find());
        int longest = 0;
        int since = -1;
        String[] lines = source.split("\n");
        for (int i = 0; i < lines.length; i++) {
            if (lines[i].matches(" {4,8}\\S.*\\) \\{")) {
                since = i;
            } else if (since >= 0 && lines[i].matches(" {4,8}\\}")) {
                longest = Math.max(longest, i - since + 1);
                since = -1;
            }
        }
        Kit.due("methods stay short: " + longest, longest > 10 && longest <= 60);
    }
}
