import java.util.ArrayList;
import java.util.List;
import java.util.Random;
import java.util.regex.Matcher;
import java.util.regex.Pattern;

/** Texts spoilt by chance (of seeds that stay): their lines and faults against a reading of its own kind. */
public final class FaultTest {
    private static final Due DUE = new Due("FaultTest");
    private static final Pattern TOKEN = Pattern.compile("[ \n]*([a-z]+|[0-9]+|;|[^ \n])", Pattern.DOTALL);
    private static final String[] PIECES = {"bench", "seat", "caller", "gives", "takes", "law", "wear", "every", "odds", "age",
        "comes", "told", "to", ";", ";", "0", "1", "9", "10", "30", "31", "99", "100", "5", "000", "99999999999", "x", "A", "-",
        "\t", "\u00e9", "", " ", "\n"};

    private final List<String> tokens = new ArrayList<>();
    private final List<Integer> places = new ArrayList<>();
    private final int length;
    private int at;
    private int fault;
    private int place = -1;

    private FaultTest(String text) {
        Matcher m = TOKEN.matcher(text);
        while (m.find()) {
            tokens.add(m.group(1));
            places.add(m.start(1));
        }
        length = text.length();
    }

    public static void main(String[] args) {
        for (int seed = 0; seed < 20000; seed++) {
            Random random = new Random(seed);
            String text = spoil(Oracle.random(random).text(random), random);
            if (text.length() > 800) {
                continue;
            }
            FaultTest due = new FaultTest(text);
            int lines = due.lines();
            WearingBench x = new WearingBench();
            DUE.is("bench of " + text, Tell.bench(x, text), lines);
            DUE.is("fault of " + text, x.fault(0), due.fault);
            DUE.is("place in " + text, x.fault(1), due.place);
        }
        DUE.end();
    }

    private static String spoil(String text, Random random) {
        String[] parts = text.split("(?<=[ ;])|(?=[ ;])");
        List<String> all = new ArrayList<>(List.of(parts));
        for (int n = random.nextInt(4); n > 0; n--) {
            int i = random.nextInt(all.size());
            String piece = PIECES[random.nextInt(PIECES.length)];
            switch (random.nextInt(4)) {
                case 0 -> all.set(i, piece);
                case 1 -> all.add(i, piece + " ");
                case 2 -> all.add(i, all.get(random.nextInt(all.size())));
                default -> all = new ArrayList<>(all.subList(0, random.nextInt(3) == 0 ? i + 1 : all.size()));
            }
        }
        if (random.nextInt(3) == 0) {
            all.add("seat gives 1;".repeat(random.nextInt(8)));
        }
        return String.join("", all);
    }

    /** How many, or -4. */
    private int lines() {
        int lines = 0;
        int seats = 0;
        int callers = 0;
        while (at < tokens.size() && fault == 0) {
            String word = tokens.get(at);
            if (lines == 0) {
                go("bench law", 0, 3, "wear", 0, 99, "every", 1, 30, "odds", 0, 10);
            } else if (word.equals("seat") && seats == 6 || word.equals("caller") && callers == 5) {
                fail(3);
            } else if (word.equals("seat")) {
                boolean takes = at + 1 < tokens.size() && tokens.get(at + 1).equals("takes");
                go(takes ? "seat takes" : "seat gives", 0, 9);
                seats++;
            } else if (word.equals("caller")) {
                go("caller age", 0, 99, "comes", 0, 30, "seat", 0, seats - 1, "told", 0, 99);
                int least = fault == 0 ? Integer.parseInt(tokens.get(at - 1)) : 0;
                go("to", least, 99);
                callers++;
            } else {
                fail(1);
            }
            go(";");
            lines++;
        }
        return fault == 0 ? lines : -4;
    }

    private void go(Object... parts) {
        for (int i = 0; i < parts.length; i++) {
            if (parts[i] instanceof String words) {
                for (String word : words.split(" ")) {
                    boolean stands = at < tokens.size() && tokens.get(at).equals(word);
                    if (stands && fault == 0) {
                        at++;
                    } else {
                        fail(1);
                    }
                }
            } else {
                number((Integer) parts[i], (Integer) parts[i + 1]);
                i++;
            }
        }
    }

    private void number(int low, int high) {
        if (at >= tokens.size() || !tokens.get(at).matches("[0-9]+")) {
            fail(1);
            return;
        }
        java.math.BigInteger value = new java.math.BigInteger(tokens.get(at));
        boolean within = value.compareTo(java.math.BigInteger.valueOf(low)) >= 0
                && value.compareTo(java.math.BigInteger.valueOf(high)) <= 0;
        if (within && fault == 0) {
            at++;
        } else {
            fail(2);
        }
    }

    private void fail(int what) {
        if (fault == 0) {
            fault = what;
            place = at < tokens.size() ? places.get(at) : length;
        }
    }
}
