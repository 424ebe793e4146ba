/** The document's terms, I to V, word by word: the text, its faults, the minutes, the laws, chances and draws. */
public final class EdgesOfTermsTest {
    private static final String FIRST = Tell.first(1, 20, 5, 3);
    private static final String SIX = Tell.seats(1, 2, 3, 4, 5, 6);
    private static final String FIVE = Tell.caller(5, 3, 5, 1, 9).repeat(5);

    private final Edges e;

    private EdgesOfTermsTest(Edges edges) {
        e = edges;
    }

    public static void main(String[] args) throws Exception {
        Edges edges = new Edges("EdgesOfTermsTest");
        EdgesOfTermsTest t = new EdgesOfTermsTest(edges);
        edges.passage("An object is used for at most 512 calls after it has been made;");
        t.calls512();
        edges.open("## Terms");
        t.lines();
        t.bounds();
        t.tokens();
        t.faults();
        t.slots();
        t.moves();
        t.sittingDown();
        t.callsOfMinutes();
        t.growing();
        t.laws();
        t.ends();
        t.rest();
        t.chances();
        t.draws();
        edges.end();
    }

    private void calls512() {
        WearingBench x = new WearingBench();
        String text = FIRST + SIX + FIVE;
        Tell.tape(x, text);
        x.bench();
        // Tell took a count, an end and one feed for twenty bytes
        int made = 3 + (text.length() + 19) / 20;
        for (int call = made; call < 510; call++) {
            e.is("call " + call, x.youth(call % 5) >= -1 ? 1 : 0, 1);
        }
        e.is("call 511", x.count(7), 12);
        e.is("call 512", x.caller(4, 2), 5);
    }

    private void fault(String text, int kind, int place) {
        WearingBench x = new WearingBench();
        e.is("bench of " + text, Tell.bench(x, text), -4);
        e.is("fault of " + text, x.fault(0), kind);
        e.is("place in " + text, x.fault(1), place);
    }

    private void stands(String text, int lines) {
        WearingBench x = new WearingBench();
        e.is("bench of " + text, Tell.bench(x, text), lines);
        e.is("no fault in " + text, x.fault(0), 0);
        e.is("no place in " + text, x.fault(1), -1);
    }

    private void lines() {
        e.says("I. BENCH: {LINE ;}.");
        stands("", 0);
        stands(FIRST, 1);
        fault("bench law 1 wear 20 every 5 odds 3", 1, 34);
        fault(FIRST + "seat gives 1", 1, 47);
        fault(FIRST + ";", 1, 35);
        fault(";" + FIRST, 1, 0);
        e.says("LINE: bench law N wear N every N odds N | seat gives|takes N | caller age N comes N seat N told N to N.");
        String[] words = {"bench", "law", "wear", "every", "odds", "seat", "gives", "takes", "caller", "age", "comes", "told", "to"};
        String whole = FIRST + "seat gives 1;seat takes 2;caller age 5 comes 3 seat 1 told 4 to 9;";
        stands(whole, 4);
        for (int at = 0; at < whole.length(); at++) {
            for (String word : words) {
                int end = at + word.length();
                boolean begins = at == 0 || !Character.isLetter(whole.charAt(at - 1));
                if (begins && whole.startsWith(word, at) && !Character.isLetter(whole.charAt(end))) {
                    fault(whole.substring(0, at) + "other" + whole.substring(end), 1, at);
                    fault(whole.substring(0, at) + whole.substring(end).trim(), 1, at);
                }
            }
        }
        fault(FIRST + "seat gives 1;caller age 5 comes 3 seat 0 told 4;", 1, 82);
        fault(FIRST + "seat gives 1;caller comes 3 age 5 seat 0 told 4 to 9;", 1, 55);
        fault(FIRST + "seat gives takes 1;", 1, 46);
        e.says("bench is the first LINE and no other:");
        fault("seat gives 1;" + FIRST, 1, 0);
        fault("caller age 5 comes 3 seat 0 told 4 to 9;", 1, 0);
        fault(FIRST + FIRST, 1, 35);
        fault(FIRST + "seat gives 1;" + FIRST, 1, 48);
    }

    private void bounds() {
        e.says("law 0 .. 3, wear 0 .. 99, every 1 .. 30, odds 0 .. 10.");
        stands(Tell.first(0, 0, 1, 0), 1);
        stands(Tell.first(3, 99, 30, 10), 1);
        fault(Tell.first(4, 0, 1, 0), 2, 10);
        fault(Tell.first(0, 100, 1, 0), 2, 17);
        fault(Tell.first(0, 0, 0, 0), 2, 25);
        fault(Tell.first(0, 0, 31, 0), 2, 25);
        fault(Tell.first(0, 0, 1, 11), 2, 32);
        e.says("seat: gives (takes: below 0) 0 .. 9.");
        WearingBench x = Tell.of(FIRST + "seat gives 0;seat gives 9;seat takes 0;seat takes 9;");
        e.list("seat", x::seat, 0, 9, 0, -9);
        fault(FIRST + "seat gives 10;", 2, 46);
        fault(FIRST + "seat takes 10;", 2, 46);
        e.says("caller: age 0 .. 99, comes 0 .. 30, his seat a SEAT told ahead, told off from an age 0 .. 99 to one no less, 99 at most.");
        String seats = FIRST + Tell.seats(1, 1);
        stands(seats + Tell.caller(0, 0, 0, 0, 0), 4);
        stands(seats + Tell.caller(99, 30, 1, 99, 99), 4);
        stands(seats + Tell.caller(99, 30, 1, 50, 50), 4);
        fault(seats + Tell.caller(100, 0, 0, 0, 0), 2, 72);
        fault(seats + Tell.caller(0, 31, 0, 0, 0), 2, 80);
        fault(seats + Tell.caller(0, 0, 2, 0, 0), 2, 87);
        fault(seats + Tell.caller(0, 0, 2, 0, 0) + "seat gives 1;", 2, 87);
        fault(FIRST + Tell.caller(0, 0, 0, 0, 0), 2, 61);
        fault(seats + Tell.caller(0, 0, 1, 100, 100), 2, 94);
        fault(seats + Tell.caller(0, 0, 1, 1, 0), 2, 99);
        fault(seats + Tell.caller(0, 0, 1, 51, 50), 2, 100);
        fault(seats + Tell.caller(0, 0, 1, 99, 100), 2, 100);
        e.says("SEATS 0 .. 5, CALLERS 0 .. 4 are numbered as they stand, SEATS from left to right.");
        StringBuilder mixed = new StringBuilder(FIRST);
        for (int i = 0; i < 5; i++) {
            mixed.append(Tell.seats(i + 1)).append(Tell.caller(10 * i, i, i, i, 50));
        }
        WearingBench y = Tell.of(mixed + Tell.seats(6));
        e.list("seat", y::seat, 1, 2, 3, 4, 5, 6, -100);
        e.list("age", c -> y.caller(c, 0), 0, 10, 20, 30, 40, -2);
        e.list("seat", c -> y.caller(c, 2), 0, 1, 2, 3, 4, -2);
    }

    private void tokens() {
        e.says("TOKENS, blanks (32, 10) aside, the longest: words (a .. z), numbers (digits), the sign ; .");
        stands("bench law1wear20every5odds3;seat gives1;", 2);
        stands(" \n bench\nlaw 1 \n wear 20 every\n\n5 odds 3 \n;\n", 1);
        stands("  \n \n", 0);
        stands(Tell.first(0, 0, 1, 0).replace(" 0", " 000000000000000000000"), 1);
        fault("benchlaw 1", 1, 0);
        fault("ben ch law 1", 1, 0);
        fault("bench law 1 1", 1, 12);
        fault("bench law 1\nwear 2 0 every", 1, 19);
        fault("bench law 1\twear", 1, 11);
        fault("bench law 1\rwear", 1, 11);
        fault("bench law 1,", 1, 11);
        fault("bench Law 1", 1, 6);
        fault("bench l\u00e4w 1", 1, 6);
        fault("bench law \u00b2", 1, 10);
        fault("bench law +1", 1, 10);
        for (char sign : new char[] {'a' - 1, 'z' + 1, '0' - 1, '9' + 1, ';' + 1, 'A', 'Z', 0, 9, 11, 13, 31, 33, 127, 128, 255}) {
            fault(FIRST + sign, 1, 35);
            fault("bench" + sign + " law 1", 1, 5);
            fault("bench law 1" + sign, 1, 11);
        }
        stands("bench law 0 wear 0 every 1 odds 0;", 1);
        stands("bench law 3 wear 89 every 19 odds 9;", 1);
    }

    private void faults() {
        e.says("FAULTS, the first by its place (a TOKEN's first byte; the end's), of one place the least:");
        fault("bench law 4 wear 100 ?", 2, 10);
        fault("bench law ? wear 100", 1, 10);
        fault("bench law   0004 wear", 2, 12);
        fault("bench law 1 \n\n", 1, 14);
        fault("bench law 1", 1, 11);
        fault(FIRST + SIX + "seat", 3, 113);
        fault(FIRST + SIX + "seat seat 12", 3, 113);
        e.says("1 a TOKEN that is none, or can't stand there (bench behind the first LINE, another word ahead of it).");
        fault("?", 1, 0);
        fault("law 1", 1, 0);
        fault("1", 1, 0);
        fault("bench 1", 1, 6);
        fault("bench law law", 1, 10);
        fault("bench law ;", 1, 10);
        fault("bench law 1 wear 20 every 5 odds 3 seat", 1, 35);
        fault(FIRST + "bench", 1, 35);
        fault(FIRST + "wear 5;", 1, 35);
        fault(FIRST + "7;", 1, 35);
        fault(FIRST + SIX + "?", 1, 113);
        fault(FIRST + SIX + "seats", 1, 113);
        e.says("2 a number out of its bounds, not as said.");
        fault("bench law 4", 2, 10);
        fault("bench law 99999999999999999999999999", 2, 10);
        fault("bench law 4294967297", 2, 10);
        fault("bench law 18446744073709551617", 2, 10);
        fault(FIRST + Tell.seats(1) + "caller age 5 comes 3 seat 1", 2, 74);
        fault(FIRST + Tell.seats(1) + "caller age 5 comes 3 seat 0 told 4 to 3", 2, 86);
        e.says("3 a 7th seat, 6th caller, at its word.");
        stands(FIRST + SIX, 7);
        stands(FIRST + SIX + FIVE, 12);
        fault(FIRST + SIX + Tell.seats(1), 3, 113);
        fault(FIRST + SIX + FIVE + Tell.seats(1), 3, 313);
        fault(FIRST + SIX + FIVE + Tell.caller(5, 3, 5, 1, 9), 3, 313);
        fault(FIRST + SIX + FIVE + "\n caller 6", 3, 315);
        fault(FIRST + Tell.seats(1) + Tell.caller(5, 3, 0, 1, 9).repeat(6), 3, 248);
    }

    private void slots() {
        WearingBench x = Tell.of(FIRST + SIX + FIVE);
        e.says("SLOTS 0 .. 3 have rows of numbers of 1, 2, 4 or 8 bytes (WIDTH 0 .. 3), at most 60, or nothing.");
        e.list("nothing yet", s -> x.write(s, 0, 0), -6, -6, -6, -6, -2);
        e.is("none has a row", x.count(9), 0);
        e.list("a row of 60", s -> x.row(s, s, 60), 0, 0, 0, 0, -2);
        e.list("the last number", s -> x.write(s, 59, 0), 0, 0, 0, 0, -2);
        e.list("one behind it", s -> x.write(s, 60, 0), -7, -7, -7, -7, -2);
        e.is("a row of 61", x.row(0, 0, 61), -2);
        e.is("a width 4", x.row(0, 4, 1), -2);
        e.is("all have a row", x.count(9), 4);
        // 0 over 1 by so many bytes alone, else a number that is no mark
        for (int width = 0; width < 4; width++) {
            int bits = 8 << width;
            Tell.row(x, 0, width, 0, bits < 64 ? (1L << bits) + 1 : 1);
            e.is("cut to " + bits + " bits", x.under(0, 0), 2);
            Tell.row(x, 0, width, 0, (1L << (bits - 1)) + 1);
            e.is("not cut to fewer than " + bits, x.under(0, 0), -2);
        }
        e.says("-2 (-100) is asked ahead of -5, -6.");
        WearingBench none = new WearingBench();
        e.is("undo without a bench", none.undo(), -2);
        e.is("laws without a bench or a row", none.laws(0), -2);
        e.is("marks without a bench or a row", none.marks(0), -2);
        WearingBench y = Tell.of(FIRST + SIX + FIVE);
        e.is("sat of a caller 5, without a row", y.sat(0, 5), -2);
        e.is("ask of a caller 5, without a row", y.ask(0, 5), -2);
        e.is("under of a mark 10, without a row", y.under(0, 10), -2);
        e.is("paste to a slot 4, without a row", y.paste(0, 0, 4, 0, 0), -2);
        for (int i = 0; i < 40; i++) {
            y.move(0, 0, 9);
        }
        e.is("move of a caller 5 behind 40 acts", y.move(5, 0, 9), -2);
        e.is("rate 100 behind acts", y.rate(100), -2);
        e.is("a seat 6", y.seat(6), -100);
    }

    private void moves() {
        e.says("II. At a MINUTE (0 .. 60): 1. moves of it are done, one behind the other as they were given:");
        WearingBench x = Tell.of(Tell.first(0, 0, 30, 0) + Tell.seats(1, 1, 1) + Tell.caller(5, 0, 0, 0, 99)
                + Tell.caller(5, 0, 1, 0, 99));
        e.is("1 to the seat of 0", x.move(1, 0, 7), 0);
        e.is("0 away", x.move(0, 2, 7), 1);
        e.is("now 1 can", x.move(1, 0, 7), 1);
        e.is("and 0 to the seat of 1", x.move(0, 1, 7), 1);
        e.is("0 sits", x.sits(0, 7), 1);
        e.is("1 sits", x.sits(1, 7), 0);
        e.is("not at 6", x.sits(1, 6), 1);
        e.is("at 60", x.move(1, 2, 60), 1);
        e.is("at minute 0 none has come", x.move(0, 2, 0), 0);
        e.is("at 61", x.move(0, 2, 61), -2);
        e.is("at -1", x.move(0, 2, -1), -2);
        e.is("an earlier minute given later is done first", x.move(0, 2, 1), 1);
        e.is("so that 0 can't go to 2 at 7", x.sits(0, 7), 1);
        e.says("who is there sits on that SEAT, if it is free (also who stands).");
        WearingBench y = Tell.of(Tell.first(0, 0, 5, 0) + Tell.seats(1) + Tell.caller(5, 0, 0, 0, 99)
                + Tell.caller(5, 2, 0, 0, 99) + Tell.caller(5, 2, 0, 0, 99));
        e.is("who comes at it is not there", y.move(1, 0, 2), 0);
        e.is("it is not free", y.move(1, 0, 3), 0);
        e.is("it is his own", y.move(0, 0, 3), 0);
        e.is("it is not free at the call", y.move(1, 0, 5), 0);
        e.is("who went in is not there", y.move(0, 0, 6), 0);
        e.is("who stands, ahead of a lesser number", y.move(2, 0, 6), 1);
        e.is("he sits", y.sits(2, 6), 0);
        e.is("the lesser one stands", y.stands(6), 2);
    }

    private void sittingDown() {
        e.says("2. who stands, then who comes, each by numbers, sits down on his seat,");
        WearingBench x = Tell.of(Tell.first(0, 0, 5, 0) + Tell.seats(1) + Tell.caller(5, 6, 0, 0, 99)
                + Tell.caller(5, 0, 0, 0, 99) + Tell.caller(5, 0, 0, 0, 99) + Tell.caller(5, 6, 0, 0, 99));
        e.is("by numbers, 1 ahead of 2", x.sits(1, 0), 0);
        e.is("2 stands", x.stands(0), 4);
        e.is("2, who stands, ahead of 0, who comes", x.sits(2, 6), 0);
        e.is("0 and 3 stand", x.stands(6), 9);
        e.is("0 ahead of 3", x.sits(0, 11), 0);
        WearingBench own = Tell.of(Tell.first(0, 0, 5, 0) + Tell.seats(1, 1, 1) + Tell.caller(5, 0, 2, 0, 99));
        e.is("his seat", own.sits(0, 0), 2);
        e.says("or on the first free one to its right, round from the last to the first; is none free, he stands.");
        WearingBench y = Tell.of(Tell.first(0, 0, 30, 0) + Tell.seats(1, 1, 1, 1) + Tell.caller(5, 0, 1, 0, 99)
                + Tell.caller(5, 0, 1, 0, 99) + Tell.caller(5, 0, 1, 0, 99) + Tell.caller(5, 0, 1, 0, 99)
                + Tell.caller(5, 0, 1, 0, 99));
        e.list("sits", c -> y.sits(c, 0), 1, 2, 3, 0, -1);
        e.is("stands", y.stands(0), 16);
        WearingBench six = Tell.of(Tell.first(0, 0, 30, 0) + SIX + Tell.caller(5, 0, 5, 0, 99)
                + Tell.caller(5, 0, 5, 0, 99));
        e.list("round from seat 5", c -> six.sits(c, 0), 5, 0);
    }

    private void callsOfMinutes() {
        e.says("3. a call, if the MINUTE is a multiple of every and above 0:");
        String five = Tell.caller(5, 0, 0, 0, 99).repeat(5);
        WearingBench x = Tell.of(Tell.first(0, 0, 1, 0) + Tell.seats(1) + five);
        e.list("every minute", x::goes, -1, 0, 1, 2, 3, 4, -1);
        WearingBench y = Tell.of(Tell.first(0, 0, 20, 0) + Tell.seats(1) + five);
        e.each("calls of three", -1, y::goes, 0, 1, 19, 21, 39, 41, 59);
        e.list("at 20, 40, 60", i -> y.goes(20 * i), -1, 0, 1, 2);
        WearingBench z = Tell.of(Tell.first(0, 0, 29, 0) + Tell.seats(1) + five);
        e.list("at 29, 58", i -> z.goes(29 * i), -1, 0, 1);
        e.is("not at 60", z.goes(60), -1);
        e.says("who came first of those there (of several the least number) goes in.");
        WearingBench w = Tell.of(Tell.first(0, 0, 5, 0) + Tell.seats(1) + Tell.caller(5, 3, 0, 0, 99)
                + Tell.caller(5, 2, 0, 0, 99) + Tell.caller(5, 2, 0, 0, 99) + Tell.caller(5, 6, 0, 0, 99)
                + Tell.caller(5, 5, 0, 0, 99));
        e.list("called", w::called, 15, 5, 10, 25, 20);
    }

    private void growing() {
        e.says("4. who sits grows older by LAW (0 at least, 99 at most); who stands does not.");
        WearingBench x = Tell.of(Tell.first(0, 0, 30, 0) + Tell.seats(9, -9) + Tell.caller(85, 0, 0, 0, 99)
                + Tell.caller(14, 0, 1, 0, 99) + Tell.caller(50, 0, 1, 0, 99));
        e.list("99 at most", m -> x.age(0, m), 85, 94, 99, 99);
        e.list("0 at least", m -> x.age(1, m), 14, 5, 0, 0);
        e.list("stands", m -> x.age(2, m), 50, 50, 50, 50);
        e.is("till he sits", x.age(2, 31), 50);
        e.is("and behind it", x.age(2, 32), 59);
        WearingBench three = Tell.of(Tell.first(3, 0, 30, 0) + Tell.seats(9, -9) + Tell.caller(89, 0, 0, 0, 99)
                + Tell.caller(8, 0, 1, 0, 99));
        e.list("99 with a neighbour", m -> three.age(0, m), 89, 99, 99);
        e.list("8 less 9 and 1", m -> three.age(1, m), 8, 0, 0);
        e.says("Ages at a MINUTE are those ahead of 4.");
        e.is("as told when he comes", x.age(0, 0), 85);
        WearingBench y = Tell.of(Tell.first(0, 0, 5, 0) + Tell.seats(1) + Tell.caller(10, 5, 0, 10, 10));
        e.is("who goes in as he comes", y.age(0, 5), 10);
        e.is("is told off", y.told(), 1);
    }

    private WearingBench lawOf(int law, int wear, int gives, int age) {
        return Tell.of(Tell.first(law, wear, 30, 0) + Tell.seats(gives) + Tell.caller(age, 0, 0, 0, 99));
    }

    private void laws() {
        e.says("LAW 0: by what his SEAT gives;");
        e.list("gives", m -> lawOf(0, 50, 3, 10).age(0, m), 10, 13, 16);
        e.list("takes", m -> lawOf(0, 50, -3, 10).age(0, m), 10, 7, 4, 1, 0);
        e.list("nothing", m -> lawOf(0, 50, 0, 10).age(0, m), 10, 10, 10);
        e.says("1: towards wear by what it gives or takes (its size), no further than wear;");
        e.list("from below", m -> lawOf(1, 15, 3, 10).age(0, m), 10, 13, 15, 15);
        e.list("from below, takes", m -> lawOf(1, 15, -3, 10).age(0, m), 10, 13, 15, 15);
        e.list("from above", m -> lawOf(1, 5, 3, 10).age(0, m), 10, 7, 5, 5);
        e.list("from above, takes", m -> lawOf(1, 5, -3, 10).age(0, m), 10, 7, 5, 5);
        e.list("at wear", m -> lawOf(1, 10, 9, 10).age(0, m), 10, 10, 10);
        e.list("nothing", m -> lawOf(1, 99, 0, 10).age(0, m), 10, 10, 10);
        e.list("to 0", m -> lawOf(1, 0, 9, 10).age(0, m), 10, 1, 0, 0);
        e.list("to 99", m -> lawOf(1, 99, 9, 89).age(0, m), 89, 98, 99, 99);
        e.says("2: by what it gives, if he has sat on it an even number of MINUTES one behind the other ahead of this one (0, 2, ..);");
        e.list("gives", m -> lawOf(2, 0, 3, 10).age(0, m), 10, 13, 13, 16, 16, 19, 19);
        e.list("takes", m -> lawOf(2, 0, -3, 10).age(0, m), 10, 7, 7, 4, 4, 1, 1, 0);
        lawTwoMoved();
        e.says("3: by what it gives and 1 for each neighbour (one SEAT to either side) who sits then.");
        lawThree();
    }

    private void lawTwoMoved() {
        WearingBench x = Tell.of(Tell.first(2, 0, 30, 0) + Tell.seats(1, 5) + Tell.caller(10, 0, 0, 0, 99));
        x.move(0, 1, 2);
        x.move(0, 0, 3);
        // on seat 0 at 0, 1, on seat 1 at 2, on seat 0 again from 3 on
        e.list("a seat again begins anew", m -> x.age(0, m), 10, 11, 11, 16, 17, 17, 18);
        WearingBench late = Tell.of(Tell.first(2, 0, 5, 0) + Tell.seats(1) + Tell.caller(10, 0, 0, 0, 99)
                + Tell.caller(10, 1, 0, 0, 99));
        e.list("who stood begins as he sits", i -> late.age(1, 5 + i), 10, 10, 11, 11, 12);
    }

    private void lawThree() {
        WearingBench x = Tell.of(Tell.first(3, 0, 4, 0) + Tell.seats(0, -1, 0, 0) + Tell.caller(10, 0, 0, 0, 99)
                + Tell.caller(20, 0, 1, 0, 99) + Tell.caller(30, 2, 2, 0, 99));
        e.list("one, then none who is gone", m -> x.age(0, m), 10, 11, 12, 13, 14, -1);
        // a neighbour at 0, 1; two at 2, 3; one at 4, when 0 has gone in
        e.list("two", m -> x.age(1, m), 20, 20, 20, 21, 22, 22, 22);
        e.list("one of two seats", m -> x.age(2, m), -1, -1, 30, 31, 32);
        WearingBench ends = Tell.of(Tell.first(3, 0, 30, 0) + Tell.seats(0, 0, 0) + Tell.caller(10, 0, 0, 0, 99)
                + Tell.caller(20, 0, 2, 0, 99));
        e.list("the ends are no neighbours", m -> ends.age(0, m), 10, 10, 10);
        WearingBench stands = Tell.of(Tell.first(3, 0, 30, 0) + Tell.seats(0) + Tell.caller(10, 0, 0, 0, 99)
                + Tell.caller(20, 0, 0, 0, 99));
        e.list("who stands is none", m -> stands.age(0, m), 10, 10, 10);
    }

    private int endOf(int age, int least, int most) {
        return Tell.of(Tell.first(0, 0, 30, 0) + Tell.seats(0) + Tell.caller(age, 0, 0, least, most)).ends(0);
    }

    private void ends() {
        e.says("III. Who goes in is told off, if his age is from told to to; else too young (below), too old (above).");
        e.is("from", endOf(20, 20, 25), 0);
        e.is("to", endOf(25, 20, 25), 0);
        e.is("one age", endOf(20, 20, 20), 0);
        e.is("one below", endOf(19, 20, 25), 1);
        e.is("one above", endOf(26, 20, 25), 2);
        e.is("0", endOf(0, 0, 0), 0);
        e.is("99", endOf(99, 99, 99), 0);
        e.says("Who never goes in (or never comes) is forgotten.");
        WearingBench x = Tell.of(Tell.first(0, 0, 30, 0) + Tell.seats(0) + Tell.caller(5, 0, 0, 0, 99).repeat(4));
        e.list("two calls", x::ends, 0, 0, 3, 3);
        e.is("who never comes is not told off", x.without(0), 6);
    }

    private void rest() {
        e.says("IV. Each of two CALLERS chooses the SEAT told as his (any).");
        // 0 is told off on seat 1 alone, 1 on seat 2 alone: told 2, or told 1 when 0 sits there
        WearingBench x = Tell.of(Tell.first(0, 0, 5, 0) + Tell.seats(1, 0, 2) + Tell.caller(10, 0, 0, 10, 10)
                + Tell.caller(20, 0, 0, 40, 40));
        e.is("pairs", x.rests(0, 1), 2);
        e.is("the first", x.rest(0, 1), 11);
        e.says("He HAS 1, if he is told off, else 0.");
        e.is("too young, too old are alike", Tell.of(Tell.first(0, 0, 5, 0) + Tell.seats(9, -9)
                + Tell.caller(50, 0, 0, 50, 50).repeat(2)).rests(0, 1), 4);
        e.says("REST: neither HAS more by another SEAT alone.");
        e.is("both would have to change", Tell.of(Tell.first(0, 0, 5, 0) + Tell.seats(1, 0) + Tell.caller(10, 0, 0, 10, 10)
                + Tell.caller(20, 0, 0, 20, 20)).rest(0, 1), 10);
    }

    private void chances() {
        e.says("V. CALLS: MINUTES of II, 3, at which somebody is there or not, from the first (every) on.");
        WearingBench x = Tell.of(Tell.first(0, 0, 5, 5) + Tell.seats(0) + Tell.caller(10, 8, 0, 10, 10));
        e.is("the first, at 5, ahead of him", x.chance(0, 1, 0), 0);
        e.is("the second", x.chance(0, 2, 0), 1);
        e.is("the second, below", x.chance(0, 2, 1), 2);
        e.says("CHANCE: each of the first k is missed with odds in ten, by itself (nobody goes in); others do not count.");
        WearingBench y = Tell.of(Tell.first(0, 0, 30, 3) + Tell.seats(0) + Tell.caller(10, 0, 0, 10, 10).repeat(2));
        e.is("7 in 10", y.chance(0, 1, 0), 7);
        e.is("1 less 9 in 100", y.chance(0, 2, 0), 91);
        e.is("49 in 100", y.chance(1, 2, 0), 49);
        e.is("not at the first alone", y.chance(1, 1, 0), 0);
        e.is("there are no more than two", y.chance(1, 10, 0), 49);
        e.says("FRACTIONS are told in lowest terms (0 / 1).");
        e.is("no call", y.chance(0, 0, 0), 0);
        e.is("no call, below", y.chance(0, 0, 1), 1);
        WearingBench sure = Tell.of(Tell.first(0, 0, 30, 0) + Tell.seats(0) + Tell.caller(10, 0, 0, 10, 10));
        e.is("100 in 100", sure.chance(0, 2, 0), 1);
        e.is("100 in 100, below", sure.chance(0, 2, 1), 1);
        WearingBench half = Tell.of(Tell.first(0, 0, 6, 6) + Tell.seats(0) + Tell.caller(10, 0, 0, 10, 10));
        e.is("64 in 100", half.chance(0, 2, 0), 16);
        e.is("64 in 100, below", half.chance(0, 2, 1), 25);
    }

    private void draws() {
        e.says("DRAWS: x becomes (1103515245 x + 12345) modulo 2,147,483,648 (at first it is the seed); a draw: x / 65536, cut, modulo 10.");
        // from 0: 12345, 1406932606, 654583775, 1449466924, ..; by 65536: 0, 21468, 9988, 22117, ..
        WearingBench two = Tell.of(Tell.first(0, 0, 30, 1));
        e.is("draws 0, 8 below 1", two.drawn(0, 1), 1);
        WearingBench four = Tell.of(Tell.first(0, 0, 15, 8));
        e.is("draws 0, 8, 8, 7 below 8", four.drawn(0, 1), 2);
        WearingBench nine = Tell.of(Tell.first(0, 0, 15, 9));
        e.is("draws 0, 8, 8, 7 below 9", nine.drawn(0, 1), 4);
        // from 2,000,000,000: it is above 2,147,483,648 at once, and above 2 to the 53rd
        java.math.BigInteger x = java.math.BigInteger.valueOf(2000000000L);
        int below = 0;
        for (int call = 0; call < 60; call++) {
            x = x.multiply(java.math.BigInteger.valueOf(1103515245L)).add(java.math.BigInteger.valueOf(12345L))
                    .mod(java.math.BigInteger.valueOf(2147483648L));
            below += x.longValue() / 65536 % 10 < 5 ? 1 : 0;
        }
        e.is("from the greatest seed", Tell.of(Tell.first(0, 0, 1, 5)).drawn(2000000000, 1), below);
        e.says("A day drawn: call by call to MINUTE 60 a draw: below odds it is missed.");
        e.is("60 calls", Tell.of(Tell.first(0, 0, 1, 10)).drawn(1, 1), 60);
        e.is("odds 0", Tell.of(Tell.first(0, 0, 1, 0)).drawn(1, 1), 0);
        e.is("two calls", Tell.of(Tell.first(0, 0, 29, 10)).drawn(1, 1), 2);
        WearingBench day = Tell.of(Tell.first(0, 0, 30, 1) + Tell.seats(1) + Tell.caller(0, 0, 0, 60, 60));
        e.is("missed at 30, told off at 60", day.drawn(0, 0), 1);
        e.is("not so without a miss", day.told(), 0);
    }
}
