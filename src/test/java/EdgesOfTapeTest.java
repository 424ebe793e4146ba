/** Promises 1 to 7, word by word: a new object, the tape, the bench told by it, faults, seats and callers as told. */
public final class EdgesOfTapeTest {
    private static final String FIRST = Tell.first(1, 20, 5, 3);
    private static final int BLANKS = 0x20202020;
    private static final int LEAST = Integer.MIN_VALUE;
    private static final int MOST = Integer.MAX_VALUE;

    private final Edges e;

    private EdgesOfTapeTest(Edges edges) {
        e = edges;
    }

    public static void main(String[] args) throws Exception {
        Edges edges = new Edges("EdgesOfTapeTest");
        EdgesOfTapeTest t = new EdgesOfTapeTest(edges);
        t.newObject();
        t.feed();
        t.fullTape();
        t.end();
        t.bench();
        t.fault();
        t.seat();
        t.caller();
        edges.hasOpened(1, 7);
        edges.end();
    }

    private void newObject() {
        e.promise(1);
        e.says("No BENCH.");
        WearingBench x = new WearingBench();
        e.list("count", x::count, 0, 0, 0, 0, 0, 0, 0, 0, 0, 0, -1);
        e.is("told", x.told(), -2);
        e.is("seat", x.seat(0), -100);
        e.is("caller", x.caller(0, 0), -2);
        e.each("back: no image either", -6, x::back, 0, 1, 2);
        e.each("write: no row either", -6, s -> x.write(s, 0, 0), 0, 1, 2, 3);
    }

    private void feed() {
        e.promise(2);
        e.says("Twenty bytes come behind the TAPE, four of each number, the highest first: how many it has;");
        WearingBench x = new WearingBench();
        // "bench law 1 wear 25 ", "every 7 odds 4;seat ", "gives 8;" and blanks of either kind
        e.is("none are there", x.count(8), 0);
        e.is("twenty", x.feed(0x62656e63, 0x68206c61, 0x77203120, 0x77656172, 0x20323520), 20);
        e.is("forty", x.feed(0x65766572, 0x79203720, 0x6f646473, 0x20343b73, 0x65617420), 40);
        e.is("sixty", x.feed(0x67697665, 0x7320383b, 0x0a0a0a0a, 0x20202020, 0x200a200a), 60);
        e.is("they are there", x.count(8), 60);
        e.is("bench", x.bench(), 2);
        e.list("count", x::count, 1, 1, 25, 7, 4, 0, 0, 2, 0);
        e.is("seat", x.seat(0), 8);
        // a byte of 128 or more is one byte, wherever it stands
        int[] numbers = {0x20202080, 0x202080ff, 0x2080ffff, 0x80ffffff};
        for (int i = 0; i < 4; i++) {
            e.is("twenty", x.feed(numbers[i], BLANKS, BLANKS, BLANKS, BLANKS), 20);
            e.is("a fault", x.bench(), -4);
            e.is("at its place", x.fault(1), 3 - i);
        }
    }

    private void fullTape() {
        e.says("NONE, and none come, if it would have more than 800.");
        WearingBench x = new WearingBench();
        Tell.tape(x, FIRST);
        for (int i = 1; i <= 38; i++) {
            e.is("feed " + i, x.feed(BLANKS, BLANKS, BLANKS, BLANKS, BLANKS), 35 + 20 * i);
        }
        e.is("795 and 20", x.feed(0, 0, 0, 0, 0), -1);
        e.is("795 still", x.count(8), 795);
        e.is("781", x.end(781), 781);
        e.is("781 and 20", x.feed(0, 0, 0, 0, 0), -1);
        e.is("781 still", x.count(8), 781);
        e.is("780", x.end(780), 780);
        e.is("780 and 20", x.feed(BLANKS, BLANKS, BLANKS, BLANKS, BLANKS), 800);
        e.is("800 and 20", x.feed(0, 0, 0, 0, 0), -1);
        e.is("800 still", x.count(8), 800);
        e.is("no other byte came", x.bench(), 1);
        e.is("there is room again", x.feed(0, 0, 0, 0, 0), 20);
    }

    private void end() {
        e.promise(3);
        e.says("The TAPE has its first n bytes alone: n;");
        WearingBench x = new WearingBench();
        Tell.tape(x, FIRST + "seat gives 1;");
        e.is("all", x.end(48), 48);
        e.is("fewer", x.end(35), 35);
        e.is("so many", x.count(8), 35);
        e.is("what comes, comes behind them", x.feed(0x73656174, 0x20676976, 0x65732037, 0x3b202020, BLANKS), 55);
        e.is("bench", x.bench(), 2);
        e.is("seat", x.seat(0), 7);
        Tell.tape(x, FIRST);
        e.is("none", x.end(0), 0);
        e.is("an empty tape", x.bench(), 0);
        e.is("none of none", x.end(0), 0);
        cutInAToken(x);
        e.says("NONE, and nothing happens, if it has not so many, or n is below 0.");
        e.is("one of none", x.end(1), -1);
        Tell.tape(x, FIRST);
        e.each("too many, or below 0", -1, x::end, 36, 800, 801, MOST, -1, LEAST);
        e.is("so many still", x.count(8), 35);
        e.is("as they were", x.bench(), 1);
    }

    /** What stood behind the cut is no part of a token any more. */
    private void cutInAToken(WearingBench x) {
        Tell.tape(x, "bench law 39");
        e.is("39 cut to 3", x.end(11), 11);
        e.is("a fault", x.bench(), -4);
        e.list("the end is there", x::fault, 1, 11);
        Tell.tape(x, "bench law 3 wear");
        e.is("wear cut to wea", x.end(15), 15);
        e.is("a fault", x.bench(), -4);
        e.list("it is no wear", x::fault, 1, 12);
    }

    private void bench() {
        e.promise(4);
        e.says("The TAPE (empty then) is the BENCH (in place of another), nothing done: how many LINES (0: there is none then).");
        WearingBench x = new WearingBench();
        Tell.tape(x, FIRST + Tell.seats(1, 2) + Tell.caller(5, 0, 1, 0, 99));
        e.is("lines", x.bench(), 4);
        e.is("the tape", x.count(8), 0);
        e.is("a move", x.move(0, 0, 1), 1);
        e.is("and one that is thought of", x.moved(0, 2), 3);
        Tell.tape(x, FIRST + Tell.seats(3) + Tell.caller(6, 0, 0, 0, 99));
        e.is("in place of it", x.bench(), 3);
        e.is("nothing done", x.count(6), 0);
        e.is("seats", x.count(0), 1);
        e.is("seat 0", x.seat(0), 3);
        e.is("seat 1", x.seat(1), -100);
        e.is("age", x.age(0, 1), 9);
        e.is("an empty tape", x.bench(), 0);
        e.is("there is none", x.told(), -2);
        e.list("count", x::count, 0, 0, 0, 0, 0, 0, 0, 0, 0, 0);
        Tell.tape(x, FIRST);
        x.bench();
        Tell.tape(x, " \n ");
        e.is("blanks alone", x.bench(), 0);
        e.is("there is none by them", x.free(0), -2);
        fullBench(x);
        faultyBench();
    }

    /** Tokens that end with a full tape. */
    private void fullBench(WearingBench x) {
        String[] ends = {"seat", " law", "   7", "7777"};
        int[] places = {800, 797, 799, 796};
        for (int i = 0; i < ends.length; i++) {
            Tell.tape(x, FIRST + " ".repeat(800 - 35 - 4) + ends[i]);
            e.is("800 bytes", x.count(8), 800);
            e.is("a fault", x.bench(), -4);
            e.list("a full tape, at its end " + ends[i], x::fault, 1, places[i]);
        }
        Tell.tape(x, FIRST + " ".repeat(800 - 35 - 13) + "seat gives 1;");
        e.is("a full tape", x.bench(), 2);
    }

    private void faultyBench() {
        e.says("-4: a FAULT (the TAPE is empty, all else stays).");
        WearingBench x = Tell.of(FIRST + Tell.seats(1, 2) + Tell.caller(5, 0, 1, 0, 99));
        x.rate(30);
        x.move(0, 0, 1);
        x.row(2, 0, 3);
        x.image(1);
        x.move(0, 1, 2);
        int age = x.age(0, 4);
        Tell.tape(x, Tell.first(0, 0, 1, 0) + Tell.seats(9, 9, 9) + "caller age 7 comes 7 seat 3");
        e.is("a fault", x.bench(), -4);
        e.list("count", x::count, 2, 1, 30, 5, 3, 1, 2, 4, 0, 1);
        e.is("seat", x.seat(0), 1);
        e.is("caller", x.caller(0, 0), 5);
        e.is("age", x.age(0, 4), age);
        e.is("image", x.back(1), 0);
        e.is("its acts", x.count(6), 1);
        WearingBench none = new WearingBench();
        Tell.tape(none, "seat");
        e.is("without a bench", none.bench(), -4);
        e.is("there is none still", none.told(), -2);
    }

    private void fault() {
        e.promise(5);
        e.says("Of the latest bench(), what 0: its FAULT, 0 without, 1: its place (NONE without).");
        WearingBench x = new WearingBench();
        Tell.bench(x, "bench law 4");
        e.list("fault 2 at 10", x::fault, 2, 10);
        Tell.bench(x, " ?");
        e.list("fault 1 at 1", x::fault, 1, 1);
        Tell.bench(x, FIRST + Tell.seats(1, 1, 1, 1, 1, 1, 1));
        e.list("fault 3 at 113", x::fault, 3, 113);
        Tell.tape(x, "?");
        e.list("the tape alone changes nothing", x::fault, 3, 113);
        x.bench();
        e.list("at 0", x::fault, 1, 0);
        Tell.bench(x, FIRST);
        e.list("without", x::fault, 0, -1);
        Tell.bench(x, "?");
        x.bench();
        e.list("an empty one is without", x::fault, 0, -1);
        Tell.bench(x, "?");
        x.image(0);
        x.back(0);
        e.list("gone back, it is the latest still", x::fault, 1, 0);
        e.says("NONE for another what, and ahead of any (what 1).");
        e.each("another what", -1, x::fault, -1, 2, 3, LEAST, MOST);
        WearingBench none = new WearingBench();
        e.list("ahead of any", none::fault, 0, -1, -1);
    }

    private void seat() {
        e.promise(6);
        e.says("What a SEAT gives (below 0: takes).");
        WearingBench x = Tell.of(FIRST + Tell.seats(9, -9, 0, 1, -1, 5));
        e.list("seat", x::seat, 9, -9, 0, 1, -1, 5);
        e.says("-100: there is none such.");
        e.each("seat", -100, x::seat, -1, 6, 7, LEAST, MOST);
        WearingBench y = Tell.of(FIRST + Tell.seats(9));
        e.each("seat", -100, y::seat, -1, 1, 5);
        e.each("without a bench", -100, new WearingBench()::seat, -1, 0, 1);
    }

    private void caller() {
        e.promise(7);
        e.says("Of a CALLER as told, what 0: age, 1: comes, 2: seat, 3: least, 4: most.");
        WearingBench x = Tell.of(FIRST + Tell.seats(9, 9) + Tell.caller(11, 12, 0, 13, 14) + Tell.caller(21, 22, 1, 23, 24));
        e.list("caller 0", what -> x.caller(0, what), 11, 12, 0, 13, 14);
        e.list("caller 1", what -> x.caller(1, what), 21, 22, 1, 23, 24);
        x.move(1, 0, 40);
        e.list("as told, whatever he does", what -> x.caller(1, what), 21, 22, 1, 23, 24);
        e.says("-2: there are none such.");
        e.each("caller", -2, c -> x.caller(c, 0), -1, 2, 4, 5, LEAST, MOST);
        e.each("what", -2, what -> x.caller(0, what), -1, 5, LEAST, MOST);
        e.is("neither", x.caller(2, 5), -2);
        e.is("without a bench", new WearingBench().caller(0, 0), -2);
    }
}
