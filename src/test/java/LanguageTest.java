import java.lang.reflect.Constructor;
import java.lang.reflect.Field;
import java.lang.reflect.Method;
import java.lang.reflect.Modifier;
import java.nio.file.Files;
import java.nio.file.Path;
import java.util.Arrays;
import java.util.List;
import java.util.Set;
import java.util.TreeSet;
import java.util.regex.Matcher;
import java.util.regex.Pattern;

/** The face of the class, and the rules of LANGUAGE.md that can be read off it. */
public final class LanguageTest {
    private static final String FACE = "DrillField() int status() boolean tray(int,int,int) boolean write(int,int,long) "
            + "long read(int,int) boolean pour(int,int,int,int,int) int marcher(int,int,int) boolean prop(int,int) "
            + "int group(long,int) boolean steps(int) int feed(int,int,int,int,int) int orders(int) int fault(int) int run() "
            + "int error(int) int at(int,int,int) int told(int) int clash(int,int) int dressed(int,int) int like(int,int) "
            + "int seen(int,int,int) int goes(int,int,int) int spotOf(int) int path(int,int,int,int) int move(int) "
            + "int person(int) boolean away(int,int,int,int) int filled(int,int) int who(int,int,int) "
            + "boolean mark(int,int,int,int) boolean weight(int,int) boolean total(int) long upper() long lower() int rank(int)";

    public static void main(String[] args) throws Exception {
        face();
        members();
        source(Files.readString(Path.of("src/main/java/DrillField.java")));
        Due.end("LanguageTest");
    }

    private static String parameters(Class<?>[] types) {
        return "(" + String.join(",", Arrays.stream(types).map(Class::getSimpleName).toList()) + ")";
    }

    private static void face() throws Exception {
        Set<String> got = new TreeSet<>();
        for (Method m : DrillField.class.getDeclaredMethods()) {
            if (!Modifier.isPrivate(m.getModifiers())) {
                got.add(m.getReturnType().getSimpleName() + " " + m.getName() + parameters(m.getParameterTypes()));
                Due.yes(m + " is public", Modifier.isPublic(m.getModifiers()) && !Modifier.isStatic(m.getModifiers()));
            }
        }
        for (Constructor<?> c : DrillField.class.getDeclaredConstructors()) {
            got.add("DrillField" + parameters(c.getParameterTypes()));
            Due.yes(c + " is public", Modifier.isPublic(c.getModifiers()));
        }
        Set<String> want = new TreeSet<>(Arrays.asList(FACE.split(" (?=\\w+ )|(?<=\\)) (?=\\w+ )")));
        Due.yes("the face is " + got + ", due is " + want, got.equals(want));
        int kind = DrillField.class.getModifiers();
        Due.yes("public and final", Modifier.isPublic(kind) && Modifier.isFinal(kind));
        Field none = DrillField.class.getDeclaredField("NONE");
        Due.yes("NONE", Modifier.isPublic(none.getModifiers()) && Modifier.isStatic(none.getModifiers())
                && Modifier.isFinal(none.getModifiers()) && none.getInt(null) == -1);
    }

    private static void members() {
        Set<String> open = new TreeSet<>();
        for (Method m : DrillField.class.getMethods()) {
            if (m.getDeclaringClass() == DrillField.class) open.add(m.getName());
        }
        for (Field f : DrillField.class.getDeclaredFields()) {
            Due.yes(f + " is private", f.getName().equals("NONE") || Modifier.isPrivate(f.getModifiers()));
        }
        Class<?>[] inside = DrillField.class.getDeclaredClasses();
        Due.yes("at most twelve classes", inside.length + 1 <= 12);
        for (Class<?> c : inside) {
            Due.yes(c + " is static and not public", Modifier.isStatic(c.getModifiers()) && !Modifier.isPublic(c.getModifiers()));
            fields(c);
            for (Method m : c.getDeclaredMethods()) {
                Due.yes(m + " has a name of its own", !open.contains(m.getName()));
                Due.yes(m + " has at most seven parameters", m.getParameterCount() <= 7);
            }
        }
        fields(DrillField.class);
        for (Method m : DrillField.class.getDeclaredMethods()) {
            Due.yes(m + " is private by another name", !Modifier.isPrivate(m.getModifiers()) || !open.contains(m.getName()));
        }
    }

    private static void fields(Class<?> c) {
        int own = 0;
        for (Field f : c.getDeclaredFields()) {
            if (Modifier.isStatic(f.getModifiers())) {
                Due.yes(f + " is final", Modifier.isFinal(f.getModifiers()));
            } else {
                own++;
            }
        }
        Due.yes(c + " has at most twenty fields", own <= 20);
    }

    private static void source(String source) {
        String code = source.replaceAll("(?s)/\\*.*?\\*/", "").replaceAll("//[^\n]*", "");
        List<String> banned = List.of("\\bthrow\\b", "\\btry\\b", "\\bcatch\\b", "\\bsynchronized\\b", "\\bassert\\b", "->", "::",
                "\\bwhile\\b", "\\bpackage\\b", "\\bhashCode\\b", "\\btoString\\b", "\\bequals\\b", "\"", "\\bstatic \\{",
                "\\bSystem\\.(?!arraycopy)", "Exact\\b", "\\bdouble\\b", "\\bfloat\\b", "\\bthread\\b", "\\bObject\\b", "\\bvar\\b",
                "\\bpublic (?!static final int NONE|final class|\\w+ \\w+\\(|DrillField\\()", "\\bprotected\\b");
        for (String word : banned) {
            Due.yes("no " + word, !Pattern.compile(word).matcher(code).find());
        }
        Matcher imports = Pattern.compile("\\bimport ([^;]*);").matcher(code);
        while (imports.find()) {
            Due.yes("import of " + imports.group(1), imports.group(1).equals("java.util.Arrays"));
        }
        loops(code);
        lengths(code);
        for (char sign : source.toCharArray()) {
            if (sign > 126) Due.yes("only plain signs", false);
        }
    }

    /** Every loop has three parts, the second of which holds a bound. */
    private static void loops(String code) {
        Matcher loop = Pattern.compile("\\bfor \\(([^;]*);([^;]*);([^{]*)\\{").matcher(code);
        int found = 0;
        while (loop.find()) {
            found++;
            Due.yes("for (" + loop.group(1) + ";" + loop.group(2) + " has a bound", loop.group(2).matches("(?s).*(<|>|<=|>=) \\S.*"));
        }
        Matcher all = Pattern.compile("\\bfor \\(").matcher(code);
        int fors = 0;
        while (all.find()) fors++;
        Due.is("loops with three parts", found, fors);
    }

    private static void lengths(String code) {
        String[] lines = code.split("\n");
        for (int i = 0; i < lines.length; i++) {
            if (lines[i].matches("( {4}| {8})\\S.*\\) \\{")) {
                String close = lines[i].replaceAll("\\S.*", "") + "}";
                int end = i;
                while (!lines[end].equals(close)) end++;
                Due.yes(lines[i].trim() + " has at most sixty lines", end - i + 1 <= 60);
            }
        }
    }
}
