import java.lang.reflect.Method;
import java.nio.file.Files;
import java.nio.file.Path;
import java.util.regex.Matcher;
import java.util.regex.Pattern;

/** What README.md shows of the class is so: its example is done call by call, its table held against DOC.md. */
public final class ReadmeTest {
    private static final Due DUE = new Due("ReadmeTest");
    private static final Pattern CALL = Pattern.compile("x\\.(\\w+)\\((.*?)\\);(?: *// (-?\\d+):.*)?");
    private static final Pattern TABLE = Pattern.compile("\\| `(\\w+).*?(\\w+)` \\| .* \\| (\\d+)(?: \\.\\.|,) (\\d+) \\|");
    private static final int PROMISES = 76;

    public static void main(String[] args) throws Exception {
        String readme = Files.readString(Path.of("README.md"));
        example(block(readme, "text"), block(readme, "java"));
        table(readme, Files.readString(Path.of("../shared/DOC.md")));
        DUE.end();
    }

    private static String block(String readme, String kind) {
        String opening = "```" + kind + "\n";
        int from = readme.indexOf(opening) + opening.length();
        return readme.substring(from, readme.indexOf("\n```", from));
    }

    private static void example(String text, String code) throws Exception {
        String[] lines = code.split("\n");
        DUE.holds("an object is made first", lines[0].equals("WearingBench x = new WearingBench();"));
        WearingBench x = new WearingBench();
        StringBuilder fed = new StringBuilder();
        for (int i = 1; i < lines.length; i++) {
            Matcher m = CALL.matcher(lines[i]);
            DUE.holds("a call: " + lines[i], m.matches());
            Object[] numbers = numbers(m.group(2));
            if (m.group(1).equals("feed")) {
                addBytes(fed, numbers);
            }
            long got = ((Number) named(m.group(1)).invoke(x, numbers)).longValue();
            if (m.group(3) != null) {
                DUE.is(lines[i], got, Long.parseLong(m.group(3)));
            }
        }
        DUE.holds("the text is what is fed", fed.toString().stripTrailing().equals(text));
    }

    private static Object[] numbers(String listed) {
        String[] parts = listed.isEmpty() ? new String[0] : listed.split(", ");
        Object[] numbers = new Object[parts.length];
        for (int i = 0; i < parts.length; i++) {
            numbers[i] = Integer.decode(parts[i]);
        }
        return numbers;
    }

    private static void addBytes(StringBuilder fed, Object[] numbers) {
        for (Object number : numbers) {
            for (int shift = 24; shift >= 0; shift -= 8) {
                fed.append((char) ((Integer) number >>> shift & 255));
            }
        }
    }

    private static Method named(String name) {
        for (Method method : WearingBench.class.getMethods()) {
            if (method.getName().equals(name)) {
                return method;
            }
        }
        throw new IllegalStateException("README.md calls what there is not: " + name);
    }

    private static void table(String readme, String doc) {
        int next = 2;
        Matcher m = TABLE.matcher(readme);
        while (m.find()) {
            int first = Integer.parseInt(m.group(3));
            int last = Integer.parseInt(m.group(4));
            DUE.is("a row's first promise", first, next);
            DUE.holds(m.group(1) + " is promise " + first, doc.contains("## Promise " + first + ": " + m.group(1) + "\n"));
            DUE.holds(m.group(2) + " is promise " + last, doc.contains("## Promise " + last + ": " + m.group(2) + "\n"));
            next = last + 1;
        }
        DUE.is("promises in the table", next - 1, PROMISES);
    }
}
