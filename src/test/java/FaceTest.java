import java.lang.reflect.Constructor;
import java.lang.reflect.Field;
import java.lang.reflect.Method;
import java.lang.reflect.Modifier;
import java.nio.file.Files;
import java.nio.file.Path;
import java.util.Arrays;
import java.util.List;
import java.util.Set;
import java.util.TreeSet;
import java.util.regex.Matcher;
import java.util.regex.Pattern;

/** The public face is the document's, no more and no less; the source keeps to rules that can be read off it. */
public final class FaceTest {
    private static final Due DUE = new Due("FaceTest");
    private static final Path SOURCE = Path.of("src/main/java/WearingBench.java");
    private static final Path DOC = Path.of("../shared/DOC.md");
    private static final int LONGEST_METHOD = 60;

    public static void main(String[] args) throws Exception {
        face();
        members();
        source();
        DUE.end();
    }

    private static void face() throws Exception {
        String doc = Files.readString(DOC);
        String block = doc.substring(doc.indexOf("public final class"), doc.indexOf("## Terms"));
        Set<String> due = new TreeSet<>();
        Matcher m = Pattern.compile("public (int|long) (\\w+)\\(([^)]*)\\);").matcher(block);
        while (m.find()) {
            due.add(m.group(1) + " " + m.group(2) + "(" + m.group(3).replaceAll(" \\w+(?=,|$)", "") + ")");
        }
        Set<String> got = new TreeSet<>();
        for (Method method : WearingBench.class.getDeclaredMethods()) {
            if (Modifier.isPublic(method.getModifiers())) {
                String types = String.join(", ", Arrays.stream(method.getParameterTypes()).map(Class::getName).toList());
                got.add(method.getReturnType().getName() + " " + method.getName() + "(" + types + ")");
            }
        }
        DUE.is("methods of the document", due.size(), 75);
        DUE.holds("methods " + due + " are " + got, due.equals(got));
    }

    private static void members() throws Exception {
        Class<?> face = WearingBench.class;
        DUE.holds("public and final", Modifier.isPublic(face.getModifiers()) && Modifier.isFinal(face.getModifiers()));
        Set<String> publicNames = new TreeSet<>();
        for (Method method : face.getDeclaredMethods()) {
            boolean isPublic = Modifier.isPublic(method.getModifiers());
            DUE.holds(method + " is public or private", isPublic || Modifier.isPrivate(method.getModifiers()));
            if (isPublic) {
                publicNames.add(method.getName());
            }
        }
        for (Field field : face.getDeclaredFields()) {
            boolean isNone = field.getName().equals("NONE") && Modifier.isPublic(field.getModifiers());
            DUE.holds(field + " is private", isNone || Modifier.isPrivate(field.getModifiers()));
            stateIsFinal(field);
        }
        Constructor<?>[] made = face.getDeclaredConstructors();
        DUE.is("constructors", made.length, 1);
        DUE.holds("public, without a parameter", Modifier.isPublic(made[0].getModifiers()) && made[0].getParameterCount() == 0);
        DUE.holds("some twelve classes", face.getDeclaredClasses().length < 12);
        for (Class<?> part : face.getDeclaredClasses()) {
            DUE.holds(part + " is static", Modifier.isStatic(part.getModifiers()));
            DUE.holds(part + " is not public", !Modifier.isPublic(part.getModifiers()));
            long fields = Arrays.stream(part.getDeclaredFields()).filter(f -> !Modifier.isStatic(f.getModifiers())).count();
            DUE.holds(part + " has some twenty fields", fields <= 20);
            for (Field field : part.getDeclaredFields()) {
                stateIsFinal(field);
            }
            for (Method method : part.getDeclaredMethods()) {
                DUE.holds(method + " has a name of its own", !publicNames.contains(method.getName()));
                DUE.holds(method + " has seven parameters at most", method.getParameterCount() <= 7);
            }
        }
    }

    private static void stateIsFinal(Field field) {
        boolean isStatic = Modifier.isStatic(field.getModifiers());
        DUE.holds(field + " is no state of all", !isStatic || Modifier.isFinal(field.getModifiers()));
    }

    private static void source() throws Exception {
        String text = Files.readString(SOURCE);
        DUE.holds("plain signs", text.chars().allMatch(c -> c == 10 || c >= 32 && c < 127));
        String code = text.replaceAll("(?s)/\\*.*?\\*/", "").replaceAll("//.*", "");
        List<String> never = List.of("throw", "throws", "try", "catch", "finally", "synchronized", "assert", "package",
                "native", "volatile", "transient", "interface", "extends", "implements", "Object", "double", "float");
        for (String word : never) {
            DUE.holds("no " + word, !Pattern.compile("\\b" + word + "\\b").matcher(code).find());
        }
        for (String sign : List.of("->", "::", "static {", "@", "protected ", "\" +", "+ \"")) {
            DUE.holds("no " + sign, !code.contains(sign));
        }
        Matcher library = Pattern.compile("\\b(import [\\w.]+|(?:Arrays|Math|Integer|Long|System)\\.\\w+)").matcher(code);
        Set<String> allowed = Set.of("import java.util.Arrays", "Arrays.fill", "Math.max", "Math.min", "Math.abs",
                "Integer.bitCount", "Long.bitCount");
        while (library.find()) {
            DUE.holds("of the library: " + library.group(1), allowed.contains(library.group(1)));
        }
        lengths(text.split("\n"));
    }

    private static void lengths(String[] lines) {
        int begun = -1;
        String end = "";
        for (int i = 0; i < lines.length; i++) {
            Matcher m = Pattern.compile("^( {4}| {8})(?!if|for|while|switch|else)[\\w\\[\\] ]+\\([^)]*\\) \\{$").matcher(lines[i]);
            if (m.find()) {
                begun = i;
                end = m.group(1) + "}";
            } else if (begun >= 0 && lines[i].equals(end)) {
                DUE.holds(lines[begun].trim() + " is short", i - begun < LONGEST_METHOD);
                begun = -1;
            }
            DUE.holds("line " + (i + 1) + " is short", lines[i].length() <= 110);
        }
    }
}
