/** Puts texts on the tape of a bench, as the calls of the class take them. */
final class Tell {
    private Tell() {
    }

    /** A new object with a bench told by a text; a fault in it is the test's own. */
    static WearingBench of(String text) {
        WearingBench x = new WearingBench();
        if (bench(x, text) < 0) {
            throw new IllegalStateException("fault " + x.fault(0) + " at " + x.fault(1) + " of " + text);
        }
        return x;
    }

    static int bench(WearingBench x, String text) {
        tape(x, text);
        return x.bench();
    }

    /** The text behind what is on the tape. */
    static void tape(WearingBench x, String text) {
        int had = x.count(8);
        for (int at = 0; at < text.length(); at += 20) {
            x.feed(four(text, at), four(text, at + 4), four(text, at + 8), four(text, at + 12), four(text, at + 16));
        }
        if (x.end(had + text.length()) != had + text.length()) {
            throw new IllegalStateException("too long: " + text);
        }
    }

    static String first(int law, int wear, int every, int odds) {
        return "bench law " + law + " wear " + wear + " every " + every + " odds " + odds + ";";
    }

    /** A line for each seat, by what it gives. */
    static String seats(int... gives) {
        StringBuilder text = new StringBuilder();
        for (int years : gives) {
            text.append(years < 0 ? "seat takes " + -years + ";" : "seat gives " + years + ";");
        }
        return text.toString();
    }

    static String caller(int age, int comes, int seat, int least, int most) {
        return "caller age " + age + " comes " + comes + " seat " + seat + " told " + least + " to " + most + ";";
    }

    static void row(WearingBench x, int slot, int width, long... numbers) {
        x.row(slot, width, numbers.length);
        for (int i = 0; i < numbers.length; i++) {
            x.write(slot, i, numbers[i]);
        }
    }

    private static int four(String text, int at) {
        int number = 0;
        for (int i = at; i < at + 4; i++) {
            number = number << 8 | (i < text.length() ? text.charAt(i) & 255 : 32);
        }
        return number;
    }
}
