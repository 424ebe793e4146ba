import java.math.BigInteger;
import java.util.Arrays;
import java.util.function.IntToLongFunction;

/** Promises 62 to 76, word by word: chances, acts, days drawn, wear, counts, images, rows. */
public final class EdgesOfActsTest {
    private static final int LEAST = Integer.MIN_VALUE;
    private static final int MOST = Integer.MAX_VALUE;

    /** 0 on seat 0 is 15 at 5; 1 on seat 1 stays 20. */
    private static final String PAIR = Tell.first(0, 7, 5, 3) + Tell.seats(1, 0, 2) + Tell.caller(10, 0, 0, 15, 15)
            + Tell.caller(20, 0, 0, 20, 20);
    private static final int[] NO_CALLER = {-1, 2, 5, LEAST, MOST};

    private final Edges e;
    private final WearingBench x = Tell.of(PAIR);
    private final WearingBench none = new WearingBench();

    private EdgesOfActsTest(Edges edges) {
        e = edges;
    }

    public static void main(String[] args) throws Exception {
        Edges edges = new Edges("EdgesOfActsTest");
        EdgesOfActsTest t = new EdgesOfActsTest(edges);
        t.chance();
        t.luckily();
        t.mean();
        t.move();
        t.undo();
        t.anew();
        t.drawn();
        t.luck();
        t.rate();
        t.count();
        t.image();
        t.back();
        t.row();
        t.write();
        t.paste();
        t.pastesRefused();
        edges.hasOpened(62, 76);
        edges.end();
    }

    private void refuses(int[] numbers, IntToLongFunction ask, IntToLongFunction withoutBench) {
        e.each("refused", -2, ask, numbers);
        e.each("without a bench", -2, withoutBench, 0, 1, -1);
    }

    private static WearingBench odds(int every, int odds, int callers) {
        return Tell.of(Tell.first(0, 0, every, odds) + Tell.seats(0) + Tell.caller(1, 0, 0, 1, 1).repeat(callers));
    }

    private void fraction(String call, long above, long below, IntToLongFunction ask) {
        e.is(call + ", above", ask.applyAsLong(0), above);
        e.is(call + ", below", ask.applyAsLong(1), below);
    }

    private void chance() {
        e.promise(62);
        e.says("CHANCE (V): that a CALLER goes in at one of the first k (0 .. 10) calls, above (what 0), below (1).");
        fraction("none", 0, 1, what -> x.chance(0, 0, what));
        fraction("one", 7, 10, what -> x.chance(0, 1, what));
        fraction("two", 91, 100, what -> x.chance(0, 2, what));
        fraction("ten", 9999940951L, 10000000000L, what -> x.chance(0, 10, what));
        fraction("the second at none", 0, 1, what -> x.chance(1, 1, what));
        fraction("the second at two", 49, 100, what -> x.chance(1, 2, what));
        // seven tenths twice, and not two or three missed of three: 1 - 0.027 - 3 * 0.7 * 0.09
        fraction("the second at three", 98, 125, what -> x.chance(1, 3, what));
        fraction("odds 10", 0, 1, what -> odds(1, 10, 1).chance(0, 10, what));
        fraction("odds 0", 1, 1, what -> odds(1, 0, 5).chance(4, 5, what));
        fraction("odds 0, a call too few", 0, 1, what -> odds(1, 0, 5).chance(4, 4, what));
        fraction("a tenth to the fifth", 1, 100000, what -> odds(1, 9, 5).chance(4, 5, what));
        fraction("ten of twelve", 1023, 1024, what -> odds(5, 5, 1).chance(0, 10, what));
        fraction("ten halves", 1023, 1024, what -> odds(6, 5, 1).chance(0, 10, what));
        fraction("nine calls alone", 511, 512, what -> odds(6, 5, 1).chance(0, 9, what));
        fraction("by every 7 there are eight", 255, 256, what -> odds(7, 5, 1).chance(0, 10, what));
        fraction("by every 30 there are two", 3, 4, what -> odds(30, 5, 1).chance(0, 10, what));
        e.says("-2: there are none such.");
        refuses(NO_CALLER, c -> x.chance(c, 1, 0), c -> none.chance(c, 1, 0));
        e.each("calls", -2, k -> x.chance(0, k, 0), -1, 11, LEAST, MOST);
        e.each("what", -2, what -> x.chance(0, 1, what), -1, 2, LEAST, MOST);
    }

    private void luckily() {
        e.promise(63);
        e.says("That he is told off at one of these, above, below.");
        fraction("none", 0, 1, what -> x.luckily(0, 0, what));
        fraction("at the first", 7, 10, what -> x.luckily(0, 1, what));
        fraction("at no other", 7, 10, what -> x.luckily(0, 10, what));
        fraction("he stays as old", 49, 100, what -> x.luckily(1, 2, what));
        // one year more at each call: told off at the third alone
        WearingBench third = Tell.of(Tell.first(0, 0, 1, 5) + Tell.seats(1) + Tell.caller(0, 0, 0, 3, 3));
        fraction("not at two", 0, 1, what -> third.luckily(0, 2, what));
        fraction("at the third", 1, 8, what -> third.luckily(0, 3, what));
        fraction("as well at ten", 1, 8, what -> third.luckily(0, 10, what));
        fraction("never", 0, 1, what -> odds(1, 10, 1).luckily(0, 10, what));
        WearingBench last = Tell.of(Tell.first(0, 0, 30, 5) + Tell.seats(1, 0) + Tell.caller(0, 0, 0, 60, 60));
        fraction("at 60", 1, 4, what -> last.luckily(0, 2, what));
        last.move(0, 1, 60);
        fraction("at 60, when he has moved", 1, 4, what -> last.luckily(0, 2, what));
        last.move(0, 1, 59);
        fraction("moved at 59", 0, 1, what -> last.luckily(0, 2, what));
        last.anew();
        fraction("all taken back", 1, 4, what -> last.luckily(0, 2, what));
        e.says("-2 likewise.");
        refuses(NO_CALLER, c -> x.luckily(c, 1, 0), c -> none.luckily(c, 1, 0));
        e.each("calls", -2, k -> x.luckily(0, k, 0), -1, 11, LEAST, MOST);
        e.each("what", -2, what -> x.luckily(0, 1, what), -1, 2, LEAST, MOST);
    }

    private void mean() {
        e.promise(64);
        e.says("The mean number of CALLERS who go in at these, above, below.");
        fraction("none", 0, 1, what -> x.mean(0, what));
        fraction("one", 7, 10, what -> x.mean(1, what));
        fraction("two", 7, 5, what -> x.mean(2, what));
        fraction("five of five", 5, 1, what -> odds(1, 0, 5).mean(10, what));
        fraction("four of five", 4, 1, what -> odds(1, 0, 5).mean(4, what));
        fraction("five halves", 5, 2, what -> odds(1, 5, 5).mean(5, what));
        fraction("nobody", 0, 1, what -> odds(1, 5, 0).mean(10, what));
        fraction("never", 0, 1, what -> odds(1, 10, 5).mean(10, what));
        e.says("-2: there are none such, no BENCH.");
        refuses(new int[] {-1, 11, LEAST, MOST}, k -> x.mean(k, 0), k -> none.mean(k, 0));
        e.each("what", -2, what -> x.mean(1, what), -1, 2, LEAST, MOST);
    }

    private void move() {
        e.promise(65);
        e.says("A CALLER moves to a SEAT at a MINUTE (0 .. 60; II) from now on: 1 if he does so, else 0 (it is an act all the same).");
        WearingBench y = Tell.of(PAIR);
        e.is("to a free one", y.move(0, 2, 3), 1);
        e.list("he sits", m -> y.sits(0, m), 0, 0, 0, 2, 2, 2, -1);
        e.is("he is 17 at 5", y.ends(0), 2);
        e.is("to a taken one", y.move(1, 2, 4), 0);
        e.is("an act", y.count(6), 2);
        e.is("at 0", y.move(0, 1, 0), 0);
        e.is("at 60, gone", y.move(0, 1, 60), 0);
        e.is("acts", y.count(6), 4);
        e.is("at the call", y.move(1, 2, 10), 1);
        WearingBench late = odds(30, 0, 3);
        e.is("one seat", late.move(2, 0, 60), 0);
        e.is("at 31, ahead of 1", late.move(2, 0, 31), 1);
        e.says("-5: there are 40 acts (not taken back);");
        WearingBench forty = Tell.of(PAIR);
        for (int act = 1; act <= 40; act++) {
            e.is("act " + act, forty.move(0, 2 - 2 * (act % 2), 1), act > 1 ? 1 : 0);
        }
        e.is("one more", forty.move(0, 0, 1), -5);
        e.is("it is no act", forty.count(6), 40);
        e.is("nor done", forty.sits(0, 1), 2);
        e.is("one taken back", forty.undo(), 39);
        e.is("one again", forty.move(1, 2, 2), 1);
        e.is("not two", forty.move(1, 1, 2), -5);
        e.says("-2: there are none such.");
        refuses(NO_CALLER, c -> x.move(c, 0, 1), c -> none.move(c, 0, 1));
        e.each("seat", -2, s -> x.move(0, s, 1), -1, 3, 6, LEAST, MOST);
        e.each("minute", -2, m -> x.move(0, 2, m), -1, 61, LEAST, MOST);
        e.is("ahead of -5", forty.move(2, 0, 1), -2);
        e.is("ahead of -5, seat", forty.move(0, 3, 1), -2);
        e.is("ahead of -5, minute", forty.move(0, 0, 61), -2);
        e.is("no act", x.count(6), 0);
    }

    private void undo() {
        e.promise(66);
        e.says("The latest act is taken back: how many there are.");
        WearingBench y = Tell.of(PAIR);
        y.move(0, 2, 3);
        y.move(0, 1, 0);
        e.is("one that was not done", y.undo(), 1);
        e.is("the other stays", y.sits(0, 3), 2);
        e.is("so many", y.count(6), 1);
        e.is("the last", y.undo(), 0);
        e.is("as told", y.sits(0, 3), 0);
        for (int act = 0; act < 40; act++) {
            y.move(0, 2 * (act % 2), 1);
        }
        e.is("of forty", y.undo(), 39);
        e.says("-5: there is none;");
        e.is("none", x.undo(), -5);
        e.is("none still", x.undo(), -5);
        e.is("so many", x.count(6), 0);
        e.says("-2: there is no BENCH.");
        e.is("undo", none.undo(), -2);
    }

    private void anew() {
        e.promise(67);
        e.says("All are: how many there were.");
        WearingBench y = Tell.of(PAIR);
        e.is("none", y.anew(), 0);
        y.move(0, 2, 3);
        y.move(0, 1, 0);
        e.is("two", y.anew(), 2);
        e.is("so many", y.count(6), 0);
        e.is("as told", y.sits(0, 3), 0);
        e.is("none left", y.undo(), -5);
        for (int act = 0; act < 40; act++) {
            y.move(0, 2 * (act % 2), 1);
        }
        e.is("forty", y.anew(), 40);
        e.is("there is room again", y.move(0, 2, 1), 1);
        e.says("-2 likewise.");
        e.is("anew", none.anew(), -2);
    }

    /** The calls missed on a day drawn, as bits, by numbers without an end. */
    private static long missed(long seed, int calls, int odds) {
        BigInteger v = BigInteger.valueOf(seed);
        long bits = 0;
        for (int call = 0; call < calls; call++) {
            v = v.multiply(BigInteger.valueOf(1103515245)).add(BigInteger.valueOf(12345)).mod(BigInteger.ONE.shiftLeft(31));
            bits |= v.shiftRight(16).mod(BigInteger.TEN).intValue() < odds ? 1L << call : 0;
        }
        return bits;
    }

    private void drawn() {
        e.promise(68);
        e.says("A day drawn (V) from a seed (0 .. 2,000,000,000), what 0: CALLERS told off, as bits, 1: calls missed.");
        int[] seeds = {0, 1, 2, 65536, 1999999999, 2000000000};
        for (int seed : seeds) {
            e.is("missed from " + seed, x.drawn(seed, 1), Long.bitCount(missed(seed, 12, 3)));
            // 0 is told off at the first call alone, 1 whenever he goes in, at two calls of twelve
            boolean first = (missed(seed, 12, 3) & 1) == 0;
            boolean second = Long.bitCount(missed(seed, 12, 3)) <= 10;
            e.is("told off from " + seed, x.drawn(seed, 0), (first ? 1 : 0) | (second ? 2 : 0));
        }
        e.is("none missed", odds(1, 0, 5).drawn(0, 1), 0);
        e.is("all told off", odds(1, 0, 5).drawn(0, 0), 31);
        e.is("all missed", odds(1, 10, 5).drawn(0, 1), 60);
        e.is("none told off", odds(1, 10, 5).drawn(0, 0), 0);
        e.is("missed, though nobody is there", odds(1, 10, 0).drawn(0, 1), 60);
        e.is("nothing of it stays", x.told(), 3);
        e.says("-2: there are none such, no BENCH.");
        refuses(new int[] {-1, 2000000001, LEAST, MOST}, seed -> x.drawn(seed, 0), seed -> none.drawn(seed, 0));
        e.each("what", -2, what -> x.drawn(0, what), -1, 2, LEAST, MOST);
    }

    private void luck() {
        e.promise(69);
        e.says("Of n (1 .. 20) such from seeds, the seed and 1, .., in how many a CALLER is forgotten.");
        WearingBench y = odds(30, 7, 2);
        for (int seed : new int[] {0, 5, 1000000, 2000000000}) {
            for (int n = 1; n <= 20; n++) {
                int first = 0;
                int second = 0;
                for (int i = 0; i < n; i++) {
                    int calls = Long.bitCount(missed((long) seed + i, 2, 7));
                    first += calls == 2 ? 1 : 0;
                    second += calls >= 1 ? 1 : 0;
                }
                e.is("0, " + n + " from " + seed, y.luck(seed, n, 0), first);
                e.is("1, " + n + " from " + seed, y.luck(seed, n, 1), second);
            }
        }
        e.is("always", odds(1, 10, 1).luck(0, 20, 0), 20);
        e.is("never", odds(1, 0, 1).luck(0, 20, 0), 0);
        e.says("-2: there are none such.");
        refuses(NO_CALLER, c -> y.luck(0, 1, c), c -> none.luck(0, 1, c));
        e.each("days", -2, n -> y.luck(0, n, 0), 0, 21, -1, LEAST, MOST);
        e.each("seed", -2, seed -> y.luck(seed, 1, 0), -1, 2000000001, LEAST, MOST);
    }

    private void rate() {
        e.promise(70);
        e.says("wear is n (0 .. 99) from now on: what it was.");
        WearingBench y = Tell.of(Tell.first(1, 7, 5, 3) + Tell.seats(9) + Tell.caller(10, 0, 0, 0, 3));
        e.is("told not off", y.told(), 0);
        e.is("7", y.rate(3), 7);
        e.is("he is 3", y.age(0, 5), 3);
        e.is("told off", y.told(), 1);
        e.is("3", y.rate(0), 3);
        e.is("0", y.rate(99), 0);
        e.is("he is 55", y.age(0, 5), 55);
        e.is("99", y.rate(99), 99);
        e.is("so it is", y.count(2), 99);
        e.says("-5: there are acts (not taken back);");
        y.move(0, 0, 0);
        e.is("an act, though not done", y.rate(5), -5);
        e.is("it stays", y.count(2), 99);
        y.undo();
        e.is("taken back", y.rate(5), 99);
        e.says("-2: there is none such, no BENCH.");
        refuses(new int[] {-1, 100, LEAST, MOST}, y::rate, none::rate);
        y.move(0, 0, 0);
        e.each("ahead of -5", -2, y::rate, -1, 100);
        e.is("it stays", y.count(2), 5);
    }

    private void count() {
        e.promise(71);
        e.says("0 SEATS, 1 LAW, 2 wear, 3 every, 4 odds, 5 CALLERS, 6 acts, 7 LINES, 8 bytes of the TAPE, 9 SLOTS that have a row.");
        WearingBench y = Tell.of(Tell.first(3, 98, 29, 9) + Tell.seats(1, 1, 1, 1, 1, 1) + Tell.caller(10, 0, 0, 15, 15).repeat(5));
        e.list("count", y::count, 6, 3, 98, 29, 9, 5, 0, 12, 0, 0);
        y.move(0, 0, 0);
        y.move(0, 0, 0);
        y.feed(0, 0, 0, 0, 0);
        y.end(19);
        y.row(3, 0, 0);
        y.row(3, 0, 9);
        y.row(1, 3, 0);
        e.list("count", y::count, 6, 3, 98, 29, 9, 5, 2, 12, 19, 2);
        e.list("without a bench", none::count, 0, 0, 0, 0, 0, 0, 0, 0, 0, 0);
        e.says("NONE for others.");
        e.each("others", -1, y::count, -1, 10, LEAST, MOST);
        e.each("others, without a bench", -1, none::count, -1, 10);
    }

    private void image() {
        e.promise(72);
        e.says("IMAGE k (0 .. 2) keeps the BENCH, and acts: 0.");
        WearingBench y = Tell.of(PAIR);
        for (int k = 0; k < 3; k++) {
            y.rate(10 + k);
            e.is("image " + k, y.image(k), 0);
        }
        for (int k = 2; k >= 0; k--) {
            y.back(k);
            e.is("its own wear, " + k, y.count(2), 10 + k);
        }
        y.move(0, 2, 3);
        e.is("in place of another", y.image(0), 0);
        y.anew();
        Tell.bench(y, Tell.first(3, 1, 2, 4));
        y.back(0);
        e.list("count", y::count, 3, 0, 10, 5, 3, 2, 1, 6, 0, 0);
        e.is("the act is done", y.sits(0, 3), 2);
        e.list("seats", y::seat, 1, 0, 2, -100);
        e.list("caller", what -> y.caller(1, what), 20, 0, 0, 20, 20);
        for (int act = 1; act < 40; act++) {
            y.move(0, 0, 60);
        }
        y.image(1);
        y.anew();
        y.back(1);
        e.is("forty acts", y.count(6), 40);
        e.is("no more", y.move(0, 0, 60), -5);
        WearingBench empty = new WearingBench();
        e.is("no bench", empty.image(0), 0);
        e.says("-2: no such k.");
        e.each("image", -2, y::image, -1, 3, LEAST, MOST);
        e.each("image without a bench", -2, none::image, -1, 3);
    }

    private void back() {
        e.promise(73);
        e.says("It is as IMAGE k has it: 0.");
        WearingBench y = Tell.of(PAIR);
        y.image(2);
        int best = y.best();
        y.move(0, 2, 3);
        y.row(2, 1, 2);
        y.feed(0, 0, 0, 0, 0);
        e.is("another day", y.told(), 2);
        e.is("back", y.back(2), 0);
        e.is("the day", y.told(), 3);
        e.is("the plan", y.best(), best);
        e.is("acts", y.count(6), 0);
        e.is("rows are no part of it", y.count(9), 1);
        e.is("nor is the tape", y.count(8), 20);
        y.move(0, 2, 3);
        e.is("again", y.back(2), 0);
        e.is("the day again", y.told(), 3);
        WearingBench empty = new WearingBench();
        empty.image(0);
        Tell.bench(empty, PAIR);
        e.is("to no bench", empty.back(0), 0);
        e.is("there is none", empty.told(), -2);
        e.says("-2: no such k;");
        e.each("back", -2, y::back, -1, 3, LEAST, MOST);
        e.each("back without a bench", -2, none::back, -1, 3);
        e.says("-6: it has nothing.");
        e.each("back", -6, y::back, 0, 1);
        e.is("all stays", y.told(), 3);
        e.each("back without a bench", -6, none::back, 0, 1, 2);
    }

    private void row() {
        e.promise(74);
        e.says("A SLOT (0 .. 3) has a row of n numbers of a WIDTH, all 0 (in place of another one): 0.");
        WearingBench y = Tell.of(PAIR);
        for (int slot = 0; slot < 4; slot++) {
            for (int width = 0; width < 4; width++) {
                Tell.row(y, slot, 3 - width, 1, 0, 2, 1, 3, 2);
                e.is("row", y.row(slot, width, 2), 0);
                e.is("0 over 0", y.marks(slot), 0);
                e.is("two numbers", y.write(slot, 2, 0), -7);
                e.is("of its width", y.paste(slot, 0, slot, 0, 2), 0);
                e.is("sixty", y.row(slot, width, 60), 0);
                e.is("all 0", y.marks(slot), 0);
                e.is("the last", y.write(slot, 59, 0), 0);
                e.is("none", y.row(slot, width, 0), 0);
                e.is("a row of none", y.marks(slot), 1);
            }
        }
        e.says("-2: there is no such SLOT or WIDTH (0 .. 3), or n is above 60;");
        Tell.row(y, 0, 1, 1, 0);
        e.each("slot", -2, s -> y.row(s, 0, 1), -1, 4, LEAST, MOST);
        e.each("width", -2, w -> y.row(0, w, 1), -1, 4, LEAST, MOST);
        e.each("n", -2, n -> y.row(0, 0, n), 61, MOST);
        e.is("slot, and n below 0", y.row(4, 0, -1), -2);
        e.is("width, and n below 0", y.row(0, 4, -1), -2);
        e.is("the slot stays", y.under(0, 1), 1);
        e.says("-3, and the SLOT stays: n is below 0.");
        e.each("n", -3, n -> y.row(0, 0, n), -1, -2, LEAST);
        e.is("it stays", y.under(0, 1), 1);
        WearingBench empty = new WearingBench();
        e.is("nothing", empty.row(3, 3, -1), -3);
        e.is("nothing still", empty.write(3, 0, 0), -6);
        e.is("no row", empty.count(9), 0);
    }

    private void write() {
        e.promise(75);
        e.says("Number i of the SLOT's row is v, cut to its WIDTH: 0.");
        WearingBench y = Tell.of(PAIR);
        for (int width = 0; width < 4; width++) {
            int bits = 8 << width;
            y.row(width, width, 60);
            for (int i = 0; i < 60; i++) {
                e.is("number " + i, y.write(width, i, i % 2 == 0 ? 9 : bits < 64 ? 5L << bits | 8 : 8), 0);
            }
            e.is("9 over 8 alone", y.under(width, 9), 256);
            y.write(width, 59, 0);
            e.is("the last one", y.under(width, 9), 257);
            y.write(width, 1, 1);
            e.is("the first ones", y.under(width, 9), 259);
            y.row(width, width, 3);
            y.write(width, 1, 60);
            y.write(width, 2, -1);
            e.is("-1 stays -1", y.laws(width), 15);
            y.write(width, 2, bits < 64 ? (1L << bits) - 1 : -1L);
            e.is("all bits are -1", y.laws(width), 15);
            y.write(width, 2, 1L << bits - 1);
            e.is("the least number is no age", y.laws(width), -2);
        }
        e.says("-2: there is no such SLOT;");
        e.each("slot", -2, s -> y.write(s, 0, 0), -1, 4, LEAST, MOST);
        e.is("slot and number", y.write(4, -1, 0), -2);
        e.says("-6: it has nothing;");
        e.each("nothing", -6, s -> none.write(s, 0, 0), 0, 1, 2, 3);
        e.each("nothing, whatever the number", -6, i -> none.write(0, i, 0), -1, 60, LEAST, MOST);
        e.says("-7: there is no such number.");
        Tell.row(y, 0, 0, 1, 0);
        e.each("number", -7, i -> y.write(0, i, 9), -1, 2, 59, 60, LEAST, MOST);
        e.is("nothing happened", y.under(0, 1), 1);
        y.row(1, 0, 0);
        e.each("a row of none", -7, i -> y.write(1, i, 9), -1, 0);
        y.row(1, 0, 60);
        e.each("a row of 60", -7, i -> y.write(1, i, 9), -1, 60);
    }

    private void holds(WearingBench y, int slot, int... pairs) {
        int[] due = new int[10];
        for (int i = 0; i < pairs.length; i += 2) {
            due[pairs[i]] |= 1 << pairs[i + 1];
        }
        for (int mark = 0; mark < 10; mark++) {
            e.is("under " + mark + " by " + Arrays.toString(pairs), y.under(slot, mark), due[mark]);
        }
    }

    private void paste() {
        e.promise(76);
        e.says("So many numbers of a SLOT's row, from one on, are put to another one's (or its own), from one on, as they were: 0.");
        WearingBench y = Tell.of(PAIR);
        for (int width = 0; width < 4; width++) {
            Tell.row(y, 0, width, 9, 0, 8, 1, 7, 2);
            Tell.row(y, 1, width, 9, 3, 9, 4);
            e.is("two to two", y.paste(0, 2, 1, 0, 2), 0);
            holds(y, 1, 8, 1, 9, 4);
            holds(y, 0, 9, 0, 8, 1, 7, 2);
            e.is("one", y.paste(0, 5, 1, 3, 1), 0);
            holds(y, 1, 8, 1, 9, 2);
            e.is("none, from the end", y.paste(0, 6, 1, 4, 0), 0);
            holds(y, 1, 8, 1, 9, 2);
            e.is("to its own, up", y.paste(0, 0, 0, 2, 4), 0);
            holds(y, 0, 9, 0, 9, 0, 8, 1);
            Tell.row(y, 0, width, 9, 0, 8, 1, 7, 2);
            e.is("to its own, down", y.paste(0, 2, 0, 0, 4), 0);
            holds(y, 0, 8, 1, 7, 2, 7, 2);
            Tell.row(y, 0, width, 9, 0, 8, 1, 7, 2);
            e.is("to its own, all in place", y.paste(0, 0, 0, 0, 6), 0);
            holds(y, 0, 9, 0, 8, 1, 7, 2);
            // 9 0 0 8 1 7: 9 over 0, 0 over 8
            e.is("one up", y.paste(0, 1, 0, 2, 4), 0);
            holds(y, 0, 9, 0, 0, 8, 1, 7, 9, 8);
        }
        long[] sixty = new long[60];
        for (int i = 0; i < 60; i++) {
            sixty[i] = i % 2 == 0 ? 9 : i / 2 % 8;
        }
        Tell.row(y, 2, 0, sixty);
        y.row(3, 0, 60);
        e.is("sixty", y.paste(2, 0, 3, 0, 60), 0);
        e.is("all eight", y.under(3, 9), 255);
        y.write(2, 59, 8);
        e.is("a row stays one's own", y.under(3, 9), 255);
        e.is("the last", y.paste(2, 59, 3, 59, 1), 0);
        e.is("all nine", y.under(3, 9), 511);
    }

    private void pastesRefused() {
        WearingBench y = Tell.of(PAIR);
        Tell.row(y, 0, 1, 1, 0, 2, 0);
        Tell.row(y, 1, 2, 1, 0, 2, 0);
        Tell.row(y, 3, 1, 5, 4);
        e.says("-2: there is no such SLOT;");
        e.each("slot", -2, s -> y.paste(s, 0, 0, 0, 1), -1, 4, LEAST, MOST);
        e.each("to", -2, s -> y.paste(0, 0, s, 0, 1), -1, 4, LEAST, MOST);
        e.is("ahead of -6", y.paste(2, 0, 4, 0, 1), -2);
        e.is("ahead of -6, from", y.paste(4, 0, 2, 0, 1), -2);
        e.is("ahead of -7", y.paste(0, 9, 4, 9, -1), -2);
        e.says("-6: one has nothing;");
        e.is("from", y.paste(2, 0, 0, 0, 0), -6);
        e.is("to", y.paste(0, 0, 2, 0, 0), -6);
        e.is("both", y.paste(2, 0, 2, 0, 0), -6);
        e.is("ahead of -7", y.paste(2, -1, 0, 9, -1), -6);
        e.says("-8: they are not of one WIDTH;");
        e.is("two and four", y.paste(0, 0, 1, 0, 1), -8);
        e.is("four and two", y.paste(1, 0, 0, 0, 1), -8);
        e.is("none of them", y.paste(1, 0, 0, 0, 0), -8);
        e.is("ahead of -7", y.paste(1, 9, 0, -1, 99), -8);
        e.says("-7, and nothing happens: some are beyond their rows (also where n is 0, a place above how many it has), "
                + "or a place or n is below 0.");
        int[][] beyond = {{0, 0, 5}, {0, 0, 3}, {3, 0, 2}, {4, 0, 1}, {0, 1, 2}, {0, 2, 1}, {5, 0, 0}, {0, 3, 0}, {-1, 0, 1},
            {0, -1, 1}, {0, 0, -1}, {-1, 0, 0}, {0, -1, 0}, {-1, 0, 2}, {1, 0, -1}, {0, 1, -1}, {MOST, 0, 1}, {0, MOST, 1},
            {1, 0, MOST}, {1, 1, MOST}, {MOST, MOST, MOST}, {LEAST, 0, 1}, {0, LEAST, 1}, {0, 0, LEAST}, {MOST, 0, LEAST}};
        for (int[] at : beyond) {
            e.is("beyond " + Arrays.toString(at), y.paste(0, at[0], 3, at[1], at[2]), -7);
        }
        holds(y, 3, 5, 4);
        e.is("its own", y.paste(0, 1, 0, 2, 3), -7);
        e.is("its own, down", y.paste(0, 2, 0, 1, 3), -7);
        holds(y, 0, 1, 0, 2, 0);
        e.is("just none", y.paste(0, 4, 3, 2, 0), 0);
        holds(y, 3, 5, 4);
        e.is("just two", y.paste(0, 2, 3, 0, 2), 0);
        holds(y, 3, 2, 0);
    }
}
