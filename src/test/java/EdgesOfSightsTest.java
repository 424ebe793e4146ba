import java.util.Arrays;
import java.util.function.IntToLongFunction;

/** Promises 52 to 57, word by word: laws and seats by what was seen, marks that lie over one another. */
public final class EdgesOfSightsTest {
    private static final int LEAST = Integer.MIN_VALUE;
    private static final int MOST = Integer.MAX_VALUE;
    private static final long WRAP = 1L << 32;

    /** 0 comes at 1 and goes in at 5: by law 0 he is 10, 11, .., 14; 1 comes at 30, and goes in then. */
    private static final String SEEN = Tell.first(0, 12, 5, 0) + Tell.seats(1, -1, 0) + Tell.caller(10, 1, 0, 0, 99)
            + Tell.caller(99, 30, 2, 0, 99);

    private final Edges e;
    private final WearingBench x = Tell.of(SEEN);
    private final WearingBench none = new WearingBench();

    private EdgesOfSightsTest(Edges edges) {
        e = edges;
        none.row(0, 3, 0);
    }

    public static void main(String[] args) throws Exception {
        Edges edges = new Edges("EdgesOfSightsTest");
        EdgesOfSightsTest t = new EdgesOfSightsTest(edges);
        t.laws();
        t.sat();
        t.ask();
        t.marks();
        t.mark();
        t.under();
        edges.hasOpened(52, 57);
        edges.end();
    }

    /** The answer with a row of eight-byte numbers in slot 0. */
    private long with(IntToLongFunction ask, long... row) {
        Tell.row(x, 0, 3, row);
        return ask.applyAsLong(0);
    }

    private void refusals(IntToLongFunction ask, IntToLongFunction withoutBench) {
        e.each("no such slot", -2, ask, -1, 4, LEAST, MOST);
        e.is("no bench, a row", withoutBench.applyAsLong(0), -2);
        e.is("no bench, no row", withoutBench.applyAsLong(1), -2);
        e.is("no bench, no slot", withoutBench.applyAsLong(4), -2);
    }

    private void wrongSights(IntToLongFunction ask) {
        long[][] rows = {{0}, {0, 1}, {0, 1, 10, 0}, {0, 1, 10, 0, 1}, {-1, 1, 10}, {2, 1, 10}, {5, 1, 10}, {0, -1, 10},
            {0, 61, -1}, {0, 1, -2}, {0, 1, 100}, {WRAP, 1, 10}, {0, WRAP + 1, 10}, {0, 1, WRAP + 10}, {0, 1, WRAP - 1},
            {0, 1, 10, 0, 1, 100}, {0, 1, 10, 2, 1, 10}, {0, 1, Long.MIN_VALUE}, {Long.MAX_VALUE, 1, 10}, {0, 1, 11, 0, 61, 0}};
        for (long[] row : rows) {
            e.is("row " + Arrays.toString(row), with(ask, row), -2);
        }
    }

    private void laws() {
        e.promise(52);
        e.says("LAWS (0 .. 3) by which it is as a SLOT's row tells, three numbers each: a CALLER, a MINUTE (0 .. 60), "
                + "his age then (0 .. 99; NONE: not there), as bits.");
        e.is("nothing told: all", with(x::laws), 15);
        e.is("11 at 2 by all", with(x::laws, 0, 2, 11), 15);
        e.is("12 at 3 but by law 2", with(x::laws, 0, 3, 12), 11);
        e.is("11 at 3 by law 2", with(x::laws, 0, 3, 11), 4);
        e.is("12 at 4 by laws 1, 2", with(x::laws, 0, 4, 12), 6);
        e.is("12 at 3, 13 at 4", with(x::laws, 0, 3, 12, 0, 4, 13), 9);
        e.is("12 at 3, 99 at 4", with(x::laws, 0, 3, 12, 0, 4, 99), 0);
        e.is("0 at 4", with(x::laws, 0, 4, 0), 0);
        e.is("not there", with(x::laws, 0, 0, -1, 0, 6, -1, 0, 60, -1), 15);
        e.is("there", with(x::laws, 0, 5, -1), 0);
        e.is("not there, but an age", with(x::laws, 0, 0, 10), 0);
        e.is("not there, but 0 years", with(x::laws, 0, 0, 0), 0);
        e.is("the last caller, 99", with(x::laws, 1, 30, 99), 15);
        e.is("it stays", x.count(1), 0);
        e.list("any slot", s -> {
            Tell.row(x, s, s, 0, 3, 11);
            return x.laws(s);
        }, 4, 4, 4, 4);
        e.says("-2: there is no such SLOT, no BENCH, a number is none such (asked last), not three each;");
        refusals(x::laws, none::laws);
        wrongSights(x::laws);
        WearingBench nobody = Tell.of(Tell.first(0, 0, 1, 0) + Tell.seats(1));
        Tell.row(nobody, 0, 0, 0, 0, -1);
        e.is("nobody at all", nobody.laws(0), -2);
        e.says("-6: it has nothing.");
        e.each("nothing", -6, Tell.of(SEEN)::laws, 0, 1, 2, 3);
    }

    private void sat() {
        e.promise(53);
        e.says("SAT: SEATS told as a CALLER's by which it is so, as bits.");
        e.is("nothing told: all", with(s -> x.sat(s, 0)), 7);
        e.is("as he comes: all", with(s -> x.sat(s, 0), 0, 1, 10), 7);
        e.is("12 at 3 by seat 0", with(s -> x.sat(s, 0), 0, 3, 12), 1);
        e.is("8 at 3 by seat 1", with(s -> x.sat(s, 0), 0, 3, 8), 2);
        e.is("10 at 5 by seat 2", with(s -> x.sat(s, 0), 0, 5, 10), 4);
        e.is("by none", with(s -> x.sat(s, 0), 0, 5, 10, 0, 4, 11), 0);
        e.is("whatever seat is told as the other one's", with(s -> x.sat(s, 1), 0, 3, 12), 7);
        e.is("not by his", with(s -> x.sat(s, 1), 0, 3, 8), 0);
        e.is("as told", x.caller(0, 2), 0);
        e.says("-2 (no such CALLER, too), -6 likewise.");
        refusals(s -> x.sat(s, 0), s -> none.sat(s, 0));
        wrongSights(s -> x.sat(s, 0));
        Tell.row(x, 0, 3, 0, 1, 10);
        e.each("no such caller", -2, c -> x.sat(0, c), -1, 2, 5, LEAST, MOST);
        WearingBench y = Tell.of(SEEN);
        e.each("nothing", -6, s -> y.sat(s, 0), 0, 1, 2, 3);
        e.each("-2 ahead of -6", -2, c -> y.sat(0, c), -1, 2);
    }

    private static WearingBench seats(int every, int... gives) {
        WearingBench y = Tell.of(Tell.first(0, 0, every, 0) + Tell.seats(gives) + Tell.caller(50, 0, 0, 0, 99)
                + Tell.caller(50, 0, 0, 0, 99));
        y.row(0, 0, 0);
        return y;
    }

    private void ask() {
        e.promise(54);
        e.says("ASK: the MINUTE at which to know his age leaves fewest of these at worst, if fewer than now, the first of several.");
        e.is("three unlike from 2 on", with(s -> x.ask(s, 0)), 2);
        e.is("two left, unlike from 2 on", with(s -> x.ask(s, 0), 0, 1, 10), 2);
        e.is("at 1 of two", seats(30, 0, 1).ask(0, 0), 1);
        // 9 a minute: 50, 59, 68, .., 99 at 6 on; 5: 55, .., 95, 99 from 10 on
        e.is("the first of several", seats(30, 9, 5).ask(0, 0), 1);
        // by seat 0 or 2 alike at 1 already, by seat 1 not: two at worst, then as many
        e.is("two at worst", seats(30, 1, 2, 1).ask(0, 0), 1);
        e.is("three left", lastMinute().sat(0, 2), 56);
        e.is("two at worst at 60 alone", lastMinute().ask(0, 2), 60);
        e.says("NONE: none;");
        e.is("one left", with(s -> x.ask(s, 0), 0, 3, 12), -1);
        e.is("none left", with(s -> x.ask(s, 0), 0, 3, 99), -1);
        e.is("all alike", seats(30, 3, 3, 3).ask(0, 0), -1);
        e.is("one seat", seats(30, 3).ask(0, 1), -1);
        e.says("-2, -6 likewise.");
        refusals(s -> x.ask(s, 0), s -> none.ask(s, 0));
        wrongSights(s -> x.ask(s, 0));
        Tell.row(x, 0, 3, 0, 1, 10);
        e.each("no such caller", -2, c -> x.ask(0, c), -1, 2, 5, LEAST, MOST);
        WearingBench y = Tell.of(SEEN);
        e.each("nothing", -6, s -> y.ask(s, 0), 0, 1, 2, 3);
        e.each("-2 ahead of -6", -2, c -> y.ask(0, c), -1, 2);
    }

    /** By seats 3, 4, 5 nobody sits beside 2, till 1 moves to seat 2 at 59. */
    private static WearingBench lastMinute() {
        WearingBench y = Tell.of(Tell.first(3, 0, 30, 0) + Tell.seats(0, 0, 0, 0, 0, 0) + Tell.caller(50, 0, 0, 0, 99)
                + Tell.caller(50, 0, 0, 0, 99) + Tell.caller(50, 1, 3, 0, 99));
        y.move(1, 2, 59);
        Tell.row(y, 0, 0, 2, 59, 50);
        return y;
    }

    private void wrongMarks(IntToLongFunction ask) {
        long[][] rows = {{0}, {1, 2, 3}, {10, 0}, {0, 10}, {-1, 0}, {0, -1}, {WRAP, 1}, {0, WRAP + 1}, {1, 2, 3, 10},
            {1, 2, -1, 3}, {Long.MIN_VALUE, 1}, {1, Long.MAX_VALUE}, {1, 2, 2, 1, 3}, {1, 1, 1, 10}};
        for (long[] row : rows) {
            e.is("row " + Arrays.toString(row), with(ask, row), -2);
        }
    }

    private void marks() {
        e.promise(55);
        e.says("MARKS: 1 if they can have been cut in some order by which each lies over another one as a SLOT's row tells, "
                + "two numbers each: a mark (0 .. 9), one it lies over; else 0.");
        e.is("nothing told", with(x::marks), 1);
        e.is("one pair", with(x::marks, 0, 9), 1);
        e.is("one pair twice", with(x::marks, 9, 0, 9, 0), 1);
        e.is("either way", with(x::marks, 9, 0, 0, 9), 0);
        e.is("over itself", with(x::marks, 4, 4), 0);
        e.is("over two", with(x::marks, 1, 2, 1, 3, 2, 3), 1);
        e.is("round three", with(x::marks, 1, 2, 2, 3, 3, 1), 0);
        e.is("round all ten", with(x::marks, 0, 1, 1, 2, 2, 3, 3, 4, 4, 5, 5, 6, 6, 7, 7, 8, 8, 9, 9, 0), 0);
        e.is("all ten", with(x::marks, 0, 1, 1, 2, 2, 3, 3, 4, 4, 5, 5, 6, 6, 7, 7, 8, 8, 9), 1);
        long[] sixty = new long[60];
        for (int i = 0; i < 60; i += 2) {
            sixty[i] = 9;
            sixty[i + 1] = i / 2 % 9;
        }
        e.is("sixty numbers", with(x::marks, sixty), 1);
        sixty[58] = 0;
        sixty[59] = 9;
        e.is("the last two", with(x::marks, sixty), 0);
        e.says("-2: there is no such SLOT, no BENCH, a number is none such (asked last), not two each;");
        refusals(x::marks, none::marks);
        wrongMarks(x::marks);
        e.says("-6: it has nothing.");
        e.each("nothing", -6, Tell.of(SEEN)::marks, 0, 1, 2, 3);
    }

    private void mark() {
        e.promise(56);
        e.says("Mark i (from 0) of the first such order of all ten (the least row).");
        Tell.row(x, 0, 0);
        e.list("nothing told", i -> x.mark(0, i), 0, 1, 2, 3, 4, 5, 6, 7, 8, 9);
        Tell.row(x, 0, 0, 0, 9);
        e.list("0 over 9", i -> x.mark(0, i), 1, 2, 3, 4, 5, 6, 7, 8, 9, 0);
        Tell.row(x, 0, 0, 9, 0);
        e.list("9 over 0", i -> x.mark(0, i), 0, 1, 2, 3, 4, 5, 6, 7, 8, 9);
        Tell.row(x, 0, 0, 0, 5, 1, 0, 2, 7);
        e.list("0 over 5, 1 over 0, 2 over 7", i -> x.mark(0, i), 3, 4, 5, 0, 1, 6, 7, 2, 8, 9);
        Tell.row(x, 0, 0, 0, 1, 1, 2, 2, 3, 3, 4, 4, 5, 5, 6, 6, 7, 7, 8, 8, 9);
        e.list("one order alone", i -> x.mark(0, i), 9, 8, 7, 6, 5, 4, 3, 2, 1, 0);
        e.says("NONE: there is none such;");
        e.each("no such place", -1, i -> x.mark(0, i), -1, 10, LEAST, MOST);
        Tell.row(x, 0, 0, 1, 2, 2, 1);
        e.each("no order", -1, i -> x.mark(0, i), 0, 5, 9, 10, -1);
        e.says("-2, -6 likewise.");
        refusals(s -> x.mark(s, 0), s -> none.mark(s, 0));
        wrongMarks(s -> x.mark(s, 0));
        WearingBench y = Tell.of(SEEN);
        e.each("nothing", -6, s -> y.mark(s, 0), 0, 1, 2, 3);
    }

    private void under() {
        e.promise(57);
        e.says("Marks that surely were cut ahead of a mark (0 .. 9), as bits.");
        Tell.row(x, 0, 0);
        e.list("nothing told", m -> x.under(0, m), 0, 0, 0, 0, 0, 0, 0, 0, 0, 0);
        Tell.row(x, 0, 0, 2, 0, 0, 9, 9, 4, 2, 8);
        e.list("by others, too", m -> x.under(0, m), 0x210, 0, 0x311, 0, 0, 0, 0, 0, 0, 0x10);
        Tell.row(x, 0, 0, 9, 8, 8, 7, 7, 6, 6, 5, 5, 4, 4, 3, 3, 2, 2, 1, 1, 0);
        e.list("all lesser", m -> x.under(0, m), 0, 1, 3, 7, 15, 31, 63, 127, 255, 511);
        Tell.row(x, 0, 0, 0, 1, 1, 2, 2, 3, 3, 4, 4, 5, 5, 6, 6, 7, 7, 8, 8, 9);
        e.is("all greater", x.under(0, 0), 1022);
        e.is("no number", x.under(0, 9), 0);
        e.says("NONE: there is no order;");
        Tell.row(x, 0, 0, 1, 2, 2, 1);
        e.each("no order", -1, m -> x.under(0, m), 0, 1, 2, 9);
        e.says("-2, -6 likewise.");
        refusals(s -> x.under(s, 0), s -> none.under(s, 0));
        wrongMarks(s -> x.under(s, 0));
        Tell.row(x, 0, 0, 1, 2);
        e.each("no such mark", -2, m -> x.under(0, m), -1, 10, LEAST, MOST);
        Tell.row(x, 0, 0, 1, 2, 2, 1);
        e.each("no such mark, no order", -2, m -> x.under(0, m), -1, 10);
        WearingBench y = Tell.of(SEEN);
        e.each("nothing", -6, s -> y.under(s, 0), 0, 1, 2, 3);
        e.each("-2 ahead of -6", -2, m -> y.under(0, m), -1, 10);
    }
}
