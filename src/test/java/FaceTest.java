import java.lang.reflect.Constructor;
import java.lang.reflect.Field;
import java.lang.reflect.Method;
import java.lang.reflect.Modifier;
import java.nio.file.Files;
import java.nio.file.Path;
import java.util.Set;
import java.util.TreeSet;
import java.util.regex.Matcher;
import java.util.regex.Pattern;

/** The face of the class as the document tells it, and what its language leaves out. */
public final class FaceTest {
    private static final String[] FACE = {"int feed int int int int int", "boolean end int", "int kitchen",
        "int fault int", "int has int", "int letter int int", "int cell int int int", "int box int int",
        "int sees int int", "int later int int int", "int round int", "int loses int int", "int jam",
        "int gap int int int", "int tuned int int int", "int found int", "int spaced int", "int bright int",
        "int track", "int wheel int int", "int steps int", "int chance int", "boolean turn int int",
        "boolean put int int int", "boolean shine int", "boolean undo", "boolean seed int", "int kept int int",
        "int image", "int octet int", "boolean on", "int status int"};
    private static final String[] LEFT_OUT = {"\\bthrow\\b", "\\btry\\b", "\\bcatch\\b", "\\bsynchronized\\b",
        "\\bassert\\b", "->", "::", "\\bpackage\\b", "\\bequals\\b", "\\bhashCode\\b", "\\btoString\\b",
        "Exact\\b", "\\bprotected\\b", "\" *\\+", "\\+ *\"", "\\bSystem\\.(?!arraycopy)", "\\bnull\\b"};

    public static void main(String[] args) throws Exception {
        face();
        classesInside();
        source();
        Check.finish();
    }

    private static void face() {
        Set<String> due = new TreeSet<>(Set.of(FACE));
        Set<String> names = new TreeSet<>();
        for (Method m : BlackLine.class.getDeclaredMethods()) {
            if (Modifier.isPublic(m.getModifiers())) {
                StringBuilder s = new StringBuilder(m.getReturnType() + " " + m.getName());
                for (Class<?> c : m.getParameterTypes()) {
                    s.append(' ').append(c);
                }
                Check.due("'" + s + "' is of the face", due.remove(s.toString()), true);
                names.add(m.getName());
            }
        }
        Check.due("missing " + due, due.size(), 0);
        for (Method m : BlackLine.class.getDeclaredMethods()) {
            boolean open = Modifier.isPublic(m.getModifiers());
            Check.due(m + " is private or of the face", open || Modifier.isPrivate(m.getModifiers()), true);
            Check.due(m + " bears no public name", !open && names.contains(m.getName()), false);
        }
        for (Field f : BlackLine.class.getDeclaredFields()) {
            Check.due(f + " is private or NONE",
                    Modifier.isPrivate(f.getModifiers()) || f.getName().equals("NONE"), true);
        }
        Constructor<?>[] made = BlackLine.class.getDeclaredConstructors();
        Check.due("one constructor", made.length, 1);
        Check.due("public final", Modifier.isFinal(BlackLine.class.getModifiers()), true);
    }

    private static void classesInside() {
        Class<?>[] inside = BlackLine.class.getDeclaredClasses();
        Check.due("some twelve classes", inside.length <= 12, true);
        for (Class<?> c : inside) {
            Check.due(c + " is static", Modifier.isStatic(c.getModifiers()), true);
            int fields = 0;
            for (Field f : c.getDeclaredFields()) {
                boolean isStatic = Modifier.isStatic(f.getModifiers());
                fields += isStatic ? 0 : 1;
                Check.due(f + " is final, if static", !isStatic || Modifier.isFinal(f.getModifiers()), true);
            }
            Check.due(c + " has some twenty fields", fields <= 20, true);
            for (Method m : c.getDeclaredMethods()) {
                Check.due(m + " takes at most seven", m.getParameterCount() <= 7, true);
                for (String of : FACE) {
                    Check.due(m + " bears no public name", of.split(" ")[1].equals(m.getName()), false);
                }
            }
        }
    }

    private static void source() throws Exception {
        String text = Files.readString(Path.of("src/main/java/BlackLine.java"));
        String code = text.replaceAll("(?s)/\\*.*?\\*/", "").replaceAll("//[^\n]*", "");
        for (String pattern : LEFT_OUT) {
            Matcher m = Pattern.compile(pattern).matcher(code);
            Check.due("there is " + pattern, m.find(), false);
        }
        Check.due("signs are 1 to 127", text.chars().allMatch(sign -> sign > 0 && sign < 128), true);
        Check.due("none but the outer class is public", text.split("\\bpublic (final )?class\\b").length, 2);
        methodsAreShort(text);
        Matcher imports = Pattern.compile("(?m)^import (.*);").matcher(text);
        while (imports.find()) {
            Check.due("import " + imports.group(1), imports.group(1).equals("java.util.Arrays"), true);
        }
    }

    private static void methodsAreShort(String text) {
        Matcher method = Pattern.compile("(?ms)^( {4}| {8})[a-z][^\n;=]*\\) \\{\n(.*?)^\\1\\}").matcher(text);
        int seen = 0;
        while (method.find()) {
            seen++;
            long lines = method.group(2).lines().count();
            Check.due(method.group().lines().findFirst().orElse("") + " has " + lines + " lines", lines <= 60, true);
        }
        Check.due("methods seen", seen > 100, true);
    }
}
