import java.util.function.IntToLongFunction;

/** Promises 36 to 51 and 58 to 61, word by word: the day as it would be, plans, laws, two at rest, swaps. */
public final class EdgesOfWouldBeTest {
    private static final int LEAST = Integer.MIN_VALUE;
    private static final int MOST = Integer.MAX_VALUE;

    /** 0 on seat 0 is 15 at 5; 1, for whom it is taken, sits on seat 1 and is 20 still at 10: both are told off. */
    private static final String TWO = Tell.first(0, 0, 5, 0) + Tell.seats(1, 0) + Tell.caller(10, 0, 0, 15, 15)
            + Tell.caller(20, 0, 0, 20, 20);
    private static final int[] NONE_OF_TWO = {-1, 2, 5, 6, LEAST, MOST};

    private final Edges e;
    private final WearingBench x = Tell.of(TWO);
    private final WearingBench none = new WearingBench();
    private final WearingBench bare = Tell.of(Tell.first(0, 0, 30, 0));

    private EdgesOfWouldBeTest(Edges edges) {
        e = edges;
    }

    public static void main(String[] args) throws Exception {
        Edges edges = new Edges("EdgesOfWouldBeTest");
        EdgesOfWouldBeTest t = new EdgesOfWouldBeTest(edges);
        t.withoutAndHelps();
        t.less();
        t.tuned();
        t.moved();
        t.suits();
        t.hour();
        t.youth();
        t.best();
        t.plan();
        t.ways();
        t.everyAndCalls();
        t.none();
        t.by();
        t.law();
        t.rests();
        t.rest();
        t.swapsAndSwap();
        edges.hasOpened(36, 51);
        edges.hasOpened(58, 61);
        edges.end();
    }

    private void refuses(int[] numbers, long want, IntToLongFunction ask, IntToLongFunction withoutBench) {
        e.each("refused", want, ask, numbers);
        e.each("without a bench", want, withoutBench, 0, 1, -1);
    }

    /** One caller on one seat of a law-0 day. */
    private static WearingBench one(int every, int gives, String caller) {
        return Tell.of(Tell.first(0, 0, every, 0) + Tell.seats(gives) + caller);
    }

    private void withoutAndHelps() {
        // 1 stands till 5 and is 28 at 10; without 0 he is 30 at 5
        WearingBench y = Tell.of(Tell.first(0, 0, 5, 0) + Tell.seats(2) + Tell.caller(10, 0, 0, 99, 99)
                + Tell.caller(20, 0, 0, 30, 30));
        e.promise(36);
        e.says("CALLERS told off, if a CALLER never comes, as bits.");
        e.list("without", x::without, 0, 1);
        e.list("without", y::without, 2, 0);
        e.is("he is none of them himself", one(5, 0, Tell.caller(1, 0, 0, 0, 99)).without(0), 0);
        WearingBench moves = Tell.of(Tell.first(0, 0, 30, 0) + Tell.seats(0, 1) + Tell.caller(1, 0, 0, 0, 99)
                + Tell.caller(1, 1, 0, 1, 1));
        moves.move(0, 1, 1);
        e.is("1 sits on seat 0", moves.told(), 3);
        moves.undo();
        moves.move(1, 0, 2);
        e.is("seat 0 is taken", moves.told(), 1);
        e.is("he never moves either, and 1 sits on seat 0", moves.without(0), 2);
        e.is("all comes back", moves.told(), 1);
        e.says("-2: there is none such.");
        refuses(NONE_OF_TWO, -2, x::without, none::without);
        e.is("nobody", bare.without(0), -2);
        e.promise(37);
        e.says("Those of them who are not told off now, as bits.");
        e.list("helps", y::helps, 2, 0);
        e.list("those told off now are none of them", x::helps, 0, 0);
        e.says("-2 likewise.");
        refuses(NONE_OF_TWO, -2, x::helps, none::helps);
    }

    private void less() {
        e.promise(38);
        e.says("CALLERS told off, if a SEAT gave 0, as bits.");
        e.list("less", x::less, 2, 3);
        e.is("a seat on which nobody sits", Tell.of(Tell.first(0, 0, 5, 0) + Tell.seats(1, 0, 7)
                + Tell.caller(10, 0, 0, 15, 15)).less(2), 1);
        WearingBench three = Tell.of(Tell.first(3, 0, 5, 0) + Tell.seats(-1, 0) + Tell.caller(10, 0, 0, 15, 15)
                + Tell.caller(10, 0, 1, 0, 99));
        e.is("a neighbour still gives one", three.less(0), 3);
        e.is("what it gives stays", three.seat(0), -1);
        e.says("-2: there is none such.");
        refuses(NONE_OF_TWO, -2, x::less, none::less);
        e.is("no seat", bare.less(0), -2);
    }

    private void tuned() {
        e.promise(39);
        e.says("What (-9 .. 9) a SEAT would give so that most are told off, the least of several.");
        e.list("both by 1, both by 0", x::tuned, 1, 0);
        e.is("9", one(5, 0, Tell.caller(0, 0, 0, 45, 45)).tuned(0), 9);
        e.is("-9", one(5, 0, Tell.caller(99, 0, 0, 54, 54)).tuned(0), -9);
        e.is("none is told off by any", one(5, 3, Tell.caller(0, 0, 0, 46, 46)).tuned(0), -9);
        e.is("2, 3, 4", one(5, 0, Tell.caller(0, 0, 0, 10, 20)).tuned(0), 2);
        e.is("all", one(5, 5, Tell.caller(50, 0, 0, 0, 99)).tuned(0), -9);
        e.is("-1, 0, 1", one(5, 9, Tell.caller(50, 0, 0, 45, 55)).tuned(0), -1);
        e.is("by its size", Tell.of(Tell.first(1, 99, 5, 0) + Tell.seats(0) + Tell.caller(0, 0, 0, 35, 35)).tuned(0), -7);
        e.is("nobody", Tell.of(Tell.first(0, 0, 5, 0) + Tell.seats(4)).tuned(0), -9);
        e.is("what it gives stays", x.seat(0), 1);
        e.says("-100: there is none such.");
        refuses(NONE_OF_TWO, -100, x::tuned, none::tuned);
        e.is("no seat", bare.tuned(0), -100);
    }

    private void moved() {
        e.promise(40);
        e.says("SEATS by which a CALLER is told off, if he moves there at a MINUTE besides");
        String text = Tell.first(0, 0, 10, 0) + Tell.seats(1, 0, 2) + Tell.caller(10, 0, 0, 16, 16);
        WearingBench y = Tell.of(text);
        e.is("to seat 1 at 6", y.moved(0, 6), 2);
        e.is("at 5", y.moved(0, 5), 0);
        e.is("at 7", y.moved(0, 7), 0);
        e.is("it is no act", y.count(6), 0);
        e.is("nor done", y.sits(0, 6), 0);
        e.says("(behind the other moves of it;");
        y.move(0, 1, 6);
        // told off now; to seat 1 he can not, on which he sits
        e.is("from seat 1", y.moved(0, 6), 2);
        y.move(0, 2, 6);
        // 24 now; to seat 0 he is 20, to seat 1 again 16
        e.is("from seat 2", y.moved(0, 6), 2);
        for (int act = 2; act < 40; act++) {
            y.move(0, 0, 60);
        }
        e.is("forty acts", y.move(0, 0, 60), -5);
        e.is("behind forty acts", y.moved(0, 6), 2);
        e.says("if he can not, as now), as bits.");
        e.is("he has not come", x.moved(0, 0), 3);
        e.is("one seat is taken, one his own", x.moved(1, 2), 3);
        e.is("he went in", x.moved(0, 6), 3);
        e.is("at 60", x.moved(1, 60), 3);
        e.is("not told off now", Tell.of(text).moved(0, 0), 0);
        e.is("nor when he went in", Tell.of(text).moved(0, 60), 0);
        e.says("-2: there are none such.");
        refuses(NONE_OF_TWO, -2, c -> x.moved(c, 0), c -> none.moved(c, 0));
        e.each("minute", -2, m -> x.moved(0, m), -1, 61, LEAST, MOST);
    }

    private void suits() {
        e.promise(41);
        e.says("SEATS told as his, by which a CALLER is told off, all else as it is, as bits.");
        e.list("seat 0; either, as he gets seat 1 by both", x::suits, 1, 3);
        WearingBench six = Tell.of(Tell.first(0, 0, 5, 0) + Tell.seats(1, 1, 1, 1, 1, 1) + Tell.caller(0, 0, 0, 5, 5));
        e.is("all six", six.suits(0), 63);
        six.move(0, 3, 2);
        e.is("moves as they are", six.suits(0), 63);
        WearingBench y = Tell.of(Tell.first(0, 0, 5, 0) + Tell.seats(0, 1, 2) + Tell.caller(0, 0, 0, 10, 10));
        e.is("seat 2", y.suits(0), 4);
        y.move(0, 0, 3);
        // 6 from seat 2, three minutes of it; 3 from seat 1
        e.is("not if he leaves it", y.suits(0), 0);
        e.is("none", one(5, 1, Tell.caller(0, 0, 0, 6, 6)).suits(0), 0);
        e.is("as told", y.caller(0, 2), 0);
        e.says("-2: there is none such.");
        refuses(NONE_OF_TWO, -2, x::suits, none::suits);
    }

    private void hour() {
        e.promise(42);
        e.says("The MINUTE (0 .. 30) told as that at which he comes, by which he is told off, that is nearest to his own, the earlier of two.");
        e.is("0 alone", one(30, 1, Tell.caller(0, 15, 0, 30, 30)).hour(0), 0);
        e.is("30 alone", one(30, 1, Tell.caller(0, 15, 0, 0, 0)).hour(0), 30);
        e.is("his own", one(30, 1, Tell.caller(0, 15, 0, 0, 99)).hour(0), 15);
        e.is("his own, 30", one(30, 1, Tell.caller(0, 30, 0, 0, 99)).hour(0), 30);
        // by 7, 17, 27
        e.is("7 of 7 and 17, both 5 off", one(10, 1, Tell.caller(10, 12, 0, 13, 13)).hour(0), 7);
        e.is("7, 4 off", one(10, 1, Tell.caller(10, 11, 0, 13, 13)).hour(0), 7);
        e.is("17, 4 off", one(10, 1, Tell.caller(10, 13, 0, 13, 13)).hour(0), 17);
        e.is("27 from 30", one(10, 1, Tell.caller(10, 30, 0, 13, 13)).hour(0), 27);
        e.is("7 from 0", one(10, 1, Tell.caller(10, 0, 0, 13, 13)).hour(0), 7);
        e.is("as told", x.caller(0, 1), 0);
        e.says("NONE: none;");
        e.is("never so old", one(30, 1, Tell.caller(0, 15, 0, 31, 99)).hour(0), -1);
        e.says("-2 likewise.");
        refuses(NONE_OF_TWO, -2, x::hour, none::hour);
    }

    private void youth() {
        e.promise(43);
        e.says("The least age (0 .. 99) told as his by which he is told off.");
        e.is("0", one(5, 0, Tell.caller(50, 0, 0, 0, 9)).youth(0), 0);
        e.is("99", one(5, 0, Tell.caller(50, 0, 0, 99, 99)).youth(0), 99);
        e.is("the least", one(5, -1, Tell.caller(50, 0, 0, 20, 30)).youth(0), 25);
        e.is("0, cut", one(5, -1, Tell.caller(50, 0, 0, 0, 0)).youth(0), 0);
        e.is("99, cut", one(5, 9, Tell.caller(0, 0, 0, 99, 99)).youth(0), 54);
        e.list("as told", c -> x.caller(c, 0), 10, 20);
        e.says("NONE: by none;");
        e.is("100", one(5, -1, Tell.caller(50, 0, 0, 95, 99)).youth(0), -1);
        e.is("-5", one(5, 1, Tell.caller(50, 0, 0, 0, 4)).youth(0), -1);
        WearingBench never = Tell.of(Tell.first(0, 0, 30, 0) + Tell.seats(0) + Tell.caller(1, 0, 0, 0, 99).repeat(3));
        e.is("forgotten", never.youth(2), -1);
        e.says("-2 likewise.");
        refuses(NONE_OF_TWO, -2, x::youth, none::youth);
    }

    /** 0 is told off on seat 1 alone, 1 on seat 2: told 2, or told 1, which is taken. */
    private static WearingBench plans() {
        return Tell.of(Tell.first(0, 0, 5, 0) + Tell.seats(1, 0, 2) + Tell.caller(10, 0, 0, 10, 10)
                + Tell.caller(20, 0, 0, 40, 40));
    }

    private static WearingBench many(int seats, int least) {
        return Tell.of(Tell.first(0, 0, 1, 0) + Tell.seats(new int[seats]) + Tell.caller(50, 0, 0, least, 99).repeat(5));
    }

    private void best() {
        e.promise(44);
        e.says("BEST: the most CALLERS who are told off by any SEATS told as theirs, moves as now.");
        WearingBench y = plans();
        e.is("both", y.best(), 2);
        e.is("none now", y.told(), 0);
        e.is("a move", y.move(0, 2, 4), 1);
        // moved from seat 1 at 4 he is 12; he has to find seat 2 taken
        e.is("with it both", y.best(), 2);
        y.move(0, 0, 4);
        e.is("and one to a seat that is free then", y.best(), 1);
        e.is("five", many(6, 50).best(), 5);
        e.is("five on one seat", many(1, 50).best(), 5);
        e.is("none of five", many(6, 51).best(), 0);
        // of two who come at once the second goes in at 60
        e.is("told off at 60", Tell.of(Tell.first(0, 0, 30, 0) + Tell.seats(0, 1) + Tell.caller(0, 0, 1, 9, 9)
                + Tell.caller(0, 0, 0, 60, 60)).best(), 1);
        e.is("nobody", bare.best(), 0);
        e.list("as told", c -> y.caller(c, 2), 0, 0);
        e.says("-2: there is no BENCH.");
        e.is("best", none.best(), -2);
    }

    private void plan() {
        e.promise(45);
        e.says("The SEAT of a CALLER by the first such (the least row).");
        WearingBench y = plans();
        e.list("1, 1 ahead of 1, 2", y::plan, 1, 1, -2);
        e.list("all do", many(6, 50)::plan, 0, 0, 0, 0, 0, -2);
        e.list("all do, as none is told off", many(6, 51)::plan, 0, 0, 0, 0, 0, -2);
        // 0 is told off on seat 1 or 2, 1 on seat 0: the first one's seat counts more
        WearingBench z = Tell.of(Tell.first(0, 0, 5, 0) + Tell.seats(0, 1, 1) + Tell.caller(10, 0, 0, 15, 15)
                + Tell.caller(20, 0, 0, 20, 20));
        e.list("1, 0", z::plan, 1, 0, -2);
        e.list("the last seat", Tell.of(Tell.first(0, 0, 5, 0) + Tell.seats(0, 0, 0, 0, 0, 1)
                + Tell.caller(0, 0, 0, 5, 5))::plan, 5);
        // 1 comes first: his seat is the row's second number all the same
        WearingBench late = Tell.of(Tell.first(0, 0, 5, 0) + Tell.seats(0, 1, 1) + Tell.caller(10, 1, 0, 19, 19)
                + Tell.caller(20, 0, 0, 25, 25));
        e.list("he finds seat 0 free", late::plan, 1, 1, -2);
        e.says("-2: there is none such.");
        refuses(NONE_OF_TWO, -2, x::plan, none::plan);
        e.is("nobody", bare.plan(0), -2);
    }

    private void ways() {
        e.promise(46);
        e.says("How many rows of SEATS do.");
        e.is("1, 1 and 1, 2", plans().ways(), 2);
        e.is("six to the fifth", many(6, 50).ways(), 7776);
        e.is("by none told off, too", many(6, 51).ways(), 7776);
        e.is("two to the fifth", many(2, 50).ways(), 32);
        e.is("one seat", many(1, 50).ways(), 1);
        e.is("nobody: one row of none", bare.ways(), 1);
        e.is("nobody, but seats", Tell.of(Tell.first(0, 0, 1, 0) + Tell.seats(1, 1)).ways(), 1);
        e.says("-2: there is no BENCH.");
        e.is("ways", none.ways(), -2);
    }

    private void everyAndCalls() {
        e.promise(47);
        e.says("EVERY: the every (1 .. 30) by which most CALLERS are told off, the least of several.");
        e.is("5 alone", x.every(), 5);
        e.is("1", one(7, 1, Tell.caller(0, 0, 0, 1, 1)).every(), 1);
        e.is("30", one(7, 1, Tell.caller(0, 0, 0, 30, 30)).every(), 30);
        e.is("12, 13, ..", one(7, 1, Tell.caller(0, 0, 0, 12, 99)).every(), 12);
        e.is("by none, the least", one(7, 1, Tell.caller(0, 0, 0, 31, 99)).every(), 1);
        e.is("nobody", bare.every(), 1);
        e.is("it stays", x.count(3), 5);
        e.says("-2 likewise.");
        e.is("every", none.every(), -2);
        e.promise(48);
        e.says("The most that are so.");
        e.is("two", x.calls(), 2);
        e.is("one", one(7, 1, Tell.caller(0, 0, 0, 30, 30)).calls(), 1);
        e.is("none", one(7, 1, Tell.caller(0, 0, 0, 31, 99)).calls(), 0);
        e.is("five", many(6, 50).calls(), 5);
        e.is("nobody", bare.calls(), 0);
        e.says("-2 likewise.");
        e.is("calls", none.calls(), -2);
    }

    private void none() {
        e.promise(49);
        e.says("The least every (1 .. 30) by which none is forgotten.");
        e.is("1, as told", Tell.of(Tell.first(0, 0, 1, 0) + Tell.seats(0) + Tell.caller(1, 0, 0, 0, 99)).none(), 1);
        e.is("1, though 30 is told", one(30, 0, Tell.caller(1, 30, 0, 0, 99)).none(), 1);
        e.is("nobody", bare.none(), 1);
        e.says("NONE: by none;");
        // by 1 there are thirty calls behind the last coming, for five at most: it never is NONE
        e.is("five who come last", Tell.of(Tell.first(0, 0, 30, 0) + Tell.seats(0)
                + Tell.caller(1, 30, 0, 0, 99).repeat(5)).none(), 1);
        e.says("-2 likewise.");
        e.is("none", none.none(), -2);
    }

    private void by() {
        WearingBench y = one(5, 1, Tell.caller(10, 0, 0, 13, 13));
        WearingBench z = Tell.of(Tell.first(3, 14, 5, 0) + Tell.seats(3) + Tell.caller(10, 0, 0, 14, 14));
        e.promise(50);
        e.says("CALLERS told off by a LAW in place of the one told, as bits.");
        e.list("13 at 5 by law 2 alone", y::by, 0, 0, 1, 0);
        e.list("14 at 5 by law 1 alone", z::by, 0, 1, 0, 0);
        e.is("it stays", z.count(1), 3);
        e.is("nobody", bare.by(3), 0);
        e.says("-2: there is none such (0 .. 3), no BENCH.");
        refuses(new int[] {-1, 4, LEAST, MOST}, -2, y::by, none::by);
    }

    private void law() {
        e.promise(51);
        e.says("The LAW by which most are, the least of several.");
        e.is("2", one(5, 1, Tell.caller(10, 0, 0, 13, 13)).law(), 2);
        e.is("0 and 3", one(5, 1, Tell.caller(10, 0, 0, 15, 15)).law(), 0);
        e.is("1", Tell.of(Tell.first(0, 14, 5, 0) + Tell.seats(3) + Tell.caller(10, 0, 0, 14, 14)).law(), 1);
        e.is("3", Tell.of(Tell.first(0, 0, 5, 0) + Tell.seats(1, 1) + Tell.caller(10, 0, 0, 20, 20)
                + Tell.caller(10, 0, 0, 0, 99)).law(), 3);
        e.is("by none, the least", one(5, 1, Tell.caller(10, 0, 0, 99, 99)).law(), 0);
        e.is("nobody", bare.law(), 0);
        e.says("-2: there is no BENCH.");
        e.is("law", none.law(), -2);
    }

    /**
     * 1, on seat 1 or 3, wants 0 beside him, or else is 0 at 5; 0, on seat 0 or 4, wants nobody beside him, or else
     * is 21 at 10.
     */
    private static WearingBench restless() {
        return Tell.of(Tell.first(3, 10, 5, 0) + Tell.seats(1, -2, 2, -2, 1) + Tell.caller(10, 2, 0, 18, 18)
                + Tell.caller(10, 0, 0, 3, 5));
    }

    private void rests() {
        e.promise(58);
        e.says("GAME (IV): pairs of SEATS of two CALLERS at REST: how many.");
        e.is("1 and 1, 1 and 2", plans().rests(0, 1), 2);
        e.is("the other way", plans().rests(1, 0), 2);
        e.is("thirty-six", many(6, 50).rests(0, 4), 36);
        e.is("thirty-six, as nobody has more", many(6, 51).rests(4, 0), 36);
        e.is("one seat", many(1, 50).rests(3, 2), 1);
        e.is("none", restless().rests(0, 1), 0);
        e.says("-2: there are none such, one twice.");
        refuses(NONE_OF_TWO, -2, c -> x.rests(c, 0), c -> none.rests(c, 0));
        refuses(NONE_OF_TWO, -2, c -> x.rests(1, c), c -> none.rests(1, c));
        e.list("one twice", c -> x.rests(c, c), -2, -2, -2);
    }

    private void rest() {
        e.promise(59);
        e.says("The first such pair: 10 times the first one's SEAT and the other one's.");
        e.is("1 and 1", plans().rest(0, 1), 11);
        e.is("the other way", plans().rest(1, 0), 11);
        e.is("0 and 0", many(6, 50).rest(0, 4), 0);
        // 0 is told off on seat 5 alone, 1 on seat 4 alone
        WearingBench y = Tell.of(Tell.first(0, 0, 5, 0) + Tell.seats(0, 0, 0, 0, 1, 2) + Tell.caller(10, 0, 0, 20, 20)
                + Tell.caller(10, 0, 0, 20, 20));
        e.is("5 and 4", y.rest(0, 1), 54);
        e.is("4 and 5", y.rest(1, 0), 45);
        e.says("NONE: there is none;");
        e.is("none", restless().rest(0, 1), -1);
        e.is("none the other way", restless().rest(1, 0), -1);
        e.says("-2 likewise.");
        refuses(NONE_OF_TWO, -2, c -> x.rest(c, 0), c -> none.rest(c, 0));
        refuses(NONE_OF_TWO, -2, c -> x.rest(1, c), c -> none.rest(1, c));
        e.list("one twice", c -> x.rest(c, c), -2, -2, -2);
    }

    private void swapsAndSwap() {
        // 3 and 4 are told off on one another's seats, as are 0 and 4
        WearingBench y = Tell.of(Tell.first(0, 0, 12, 0) + Tell.seats(0, 0, 0, 0, 1) + Tell.caller(1, 0, 0, 13, 13)
                + Tell.caller(1, 0, 1, 1, 1) + Tell.caller(1, 0, 2, 1, 1) + Tell.caller(1, 0, 3, 49, 49)
                + Tell.caller(1, 0, 4, 1, 1));
        e.promise(60);
        e.says("SWAPS: pairs of CALLERS not both told off who both are, if they change SEATS told: how many.");
        e.is("told off now", y.told(), 6);
        e.is("0 and 4, 3 and 4", y.swaps(), 2);
        e.is("both are told off now", Tell.of(TWO).swaps(), 0);
        e.is("no pair", one(5, 0, Tell.caller(1, 0, 0, 0, 9)).swaps(), 0);
        e.is("nobody", bare.swaps(), 0);
        e.list("as told", c -> y.caller(c, 2), 0, 1, 2, 3, 4);
        e.says("-2: there is no BENCH.");
        e.is("swaps", none.swaps(), -2);
        e.promise(61);
        e.says("The first such pair (10 times the lesser and the other one).");
        e.is("0 and 4", y.swap(), 4);
        WearingBench z = Tell.of(Tell.first(0, 0, 12, 0) + Tell.seats(0, 0, 0, 0, 1) + Tell.caller(1, 0, 0, 1, 1)
                + Tell.caller(1, 0, 1, 1, 1) + Tell.caller(1, 0, 2, 1, 1) + Tell.caller(1, 0, 3, 49, 49)
                + Tell.caller(1, 0, 4, 1, 1));
        e.is("3 and 4", z.swap(), 34);
        e.says("NONE: none;");
        e.is("none", Tell.of(TWO).swap(), -1);
        e.is("no pair", one(5, 0, Tell.caller(1, 0, 0, 0, 9)).swap(), -1);
        e.is("nobody", bare.swap(), -1);
        e.says("-2 likewise.");
        e.is("swap", none.swap(), -2);
    }
}
