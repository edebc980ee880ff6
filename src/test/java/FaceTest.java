import java.io.IOException;
import java.lang.reflect.Constructor;
import java.lang.reflect.Field;
import java.lang.reflect.Method;
import java.lang.reflect.Modifier;
import java.nio.file.Files;
import java.nio.file.Path;
import java.util.List;
import java.util.Set;
import java.util.TreeSet;
import java.util.regex.Matcher;
import java.util.regex.Pattern;

/** The class's face is the document's and no more, and its text keeps to what LANGUAGE.md lets be seen. */
public final class FaceTest {
    private static final Path SOURCE = Path.of("src/main/java/NewsreelHouse.java");
    private static final Path DOCUMENT = Path.of("../shared/DOC.md");
    private static int wrong = 0;

    private static void due(boolean holds, String what) {
        if (!holds) {
            wrong++;
            System.out.println(what);
        }
    }

    private static String head(Method m) {
        StringBuilder s = new StringBuilder("public ").append(m.getReturnType()).append(' ').append(m.getName()).append('(');
        for (int i = 0; i < m.getParameterCount(); i++) {
            s.append(i == 0 ? "" : ", ").append(m.getParameterTypes()[i]);
        }
        return s.append(')').toString();
    }

    private static Set<String> headsOfDocument() throws IOException {
        Set<String> heads = new TreeSet<>();
        Matcher m = Pattern.compile("^    (public int \\w+\\([^)]*\\));$", Pattern.MULTILINE).matcher(Files.readString(DOCUMENT));
        while (m.find()) {
            heads.add(m.group(1).replaceAll("(int|long|boolean) \\w+([,)])", "$1$2"));
        }
        return heads;
    }

    private static void face() throws IOException {
        Set<String> heads = new TreeSet<>();
        Set<String> publicNames = new TreeSet<>();
        for (Method m : NewsreelHouse.class.getDeclaredMethods()) {
            if (Modifier.isPublic(m.getModifiers())) {
                heads.add(head(m));
                publicNames.add(m.getName());
            } else {
                due(Modifier.isPrivate(m.getModifiers()), "not private: " + m);
            }
        }
        due(heads.equals(headsOfDocument()) && heads.size() == 50, "the methods are not the document's: " + heads);
        for (Method m : NewsreelHouse.class.getDeclaredMethods()) {
            due(Modifier.isPublic(m.getModifiers()) || !publicNames.contains(m.getName()), "a private method with a public name: " + m);
        }
        Set<String> constants = new TreeSet<>();
        for (Field f : NewsreelHouse.class.getDeclaredFields()) {
            due(!Modifier.isStatic(f.getModifiers()) || Modifier.isFinal(f.getModifiers()), "static and not final: " + f);
            if (!Modifier.isPrivate(f.getModifiers())) {
                constants.add(f.getName());
            }
        }
        due(constants.equals(Set.of("UNKNOWN", "OUTSIDE", "STATE", "FULL", "NONE")), "the constants are not the document's: " + constants);
        Constructor<?>[] made = NewsreelHouse.class.getDeclaredConstructors();
        due(made.length == 1 && Modifier.isPublic(made[0].getModifiers()) && made[0].getParameterCount() == 0, "the constructor");
        int kind = NewsreelHouse.class.getModifiers();
        due(Modifier.isPublic(kind) && Modifier.isFinal(kind), "the class is not public and final");
        due(NewsreelHouse.UNKNOWN == -1 && NewsreelHouse.OUTSIDE == -2 && NewsreelHouse.STATE == -3, "refusals");
        due(NewsreelHouse.FULL == -4 && NewsreelHouse.NONE == -9, "FULL, NONE");
        insides(publicNames);
    }

    private static void insides(Set<String> publicNames) {
        Class<?>[] inside = NewsreelHouse.class.getDeclaredClasses();
        due(inside.length <= 12, "too many classes");
        for (Class<?> c : inside) {
            due(Modifier.isStatic(c.getModifiers()), "not static: " + c);
            due(c.getDeclaredFields().length <= 24, "many fields: " + c);
            for (Method m : c.getDeclaredMethods()) {
                due(m.getParameterCount() <= 7, "many parameters: " + m);
                due(!publicNames.contains(m.getName()), "a public name inside: " + m);
            }
            for (Field f : c.getDeclaredFields()) {
                due(!Modifier.isStatic(f.getModifiers()) || Modifier.isFinal(f.getModifiers()), "static and not final: " + f);
            }
        }
    }

    private static void words() throws IOException {
        String code = Files.readString(SOURCE).replaceAll("(?s)/\\*.*?\\*/", "").replaceAll("//[^\n]*", "");
        for (String word : new String[] {"throw", "throws", "try", "catch", "synchronized", "assert", "package", "double", "Exact", "Object", "System"}) {
            due(!Pattern.compile("\\b" + word + "\\b").matcher(code).find(), "not of the language: " + word);
        }
        due(!code.contains("->") && !code.contains("::"), "a lambda or a method reference");
        Matcher m = Pattern.compile("import ([^;]*);").matcher(code);
        while (m.find()) {
            due(m.group(1).equals("java.util.Arrays"), "import " + m.group(1));
        }
    }

    /** A divisor is a number, a constant, or was looked at in its own method (every): none is an element of an array. */
    private static void divisors() throws IOException {
        String code = Files.readString(SOURCE).replaceAll("(?s)/\\*.*?\\*/", "").replaceAll("//[^\n]*", "");
        Matcher m = Pattern.compile("[/%]=? ([^ ;]*)").matcher(code);
        while (m.find()) {
            due(m.group(1).matches("[1-9]\\d*\\)?|[A-Z_]+\\)?|every"), "a divisor that was not looked at: " + m.group(1));
        }
    }

    /** Methods stay short: from a head to the brace that stands below it. */
    private static void lengths() throws IOException {
        List<String> lines = Files.readAllLines(SOURCE);
        int begun = -1;
        String indent = "";
        for (int i = 0; i < lines.size(); i++) {
            String line = lines.get(i);
            if (line.matches(" {4,8}\\S.*\\) \\{") && !line.contains("class ")) {
                begun = i;
                indent = line.substring(0, line.indexOf(line.trim()));
            }
            if (begun >= 0 && line.equals(indent + "}")) {
                due(i - begun < 60, "a long method at line " + begun);
                begun = -1;
            }
            due(line.length() <= 130, "a long line: " + (i + 1));
        }
    }

    public static void main(String[] args) throws IOException {
        face();
        words();
        divisors();
        lengths();
        System.out.println(wrong == 0 ? "the face is as due" : wrong + " faults of the face");
        if (wrong != 0) {
            System.exit(1);
        }
    }
}
