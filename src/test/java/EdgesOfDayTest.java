import java.util.function.IntToLongFunction;

/** Promises 8 to 35, word by word: the day as it is. */
public final class EdgesOfDayTest {
    private static final int LEAST = Integer.MIN_VALUE;
    private static final int MOST = Integer.MAX_VALUE;

    /**
     * 0 sits on seat 0 till 4; 1 finds it taken, and sits on seat 1 till 8; 2 stands from 1 on, sits on seat 0 from
     * 5 to 12; 3 comes at 30 and sits on seat 1 till 32. Ages when they go in: 18, 26, 32, 0.
     */
    private static final String FOUR = Tell.first(0, 0, 4, 0) + Tell.seats(2, -3) + Tell.caller(10, 0, 0, 18, 20)
            + Tell.caller(50, 0, 0, 0, 30) + Tell.caller(18, 1, 1, 18, 18) + Tell.caller(5, 30, 1, 90, 99);
    private static final int[] NO_CALLER = {-1, 4, 5, LEAST, MOST};
    private static final int[] NO_SEAT = {-1, 2, 5, 6, LEAST, MOST};
    private static final int[] NO_MINUTE = {-1, 61, LEAST, MOST};

    /** 1 goes in at 30, 2 at 60; 0, 3, 4 are forgotten. Seat 0 is 1's from 4 to 30, then 0's. */
    private static final String WAIT = Tell.first(0, 0, 30, 0) + Tell.seats(1) + Tell.caller(0, 30, 0, 0, 0)
            + Tell.caller(1, 4, 0, 99, 99) + Tell.caller(2, 4, 0, 0, 99) + Tell.caller(3, 5, 0, 0, 99)
            + Tell.caller(99, 6, 0, 0, 99);

    /** Each on a seat of his own all day, but for two who go in at 30 and 60. */
    private static final String STILL = Tell.first(0, 0, 30, 0) + Tell.seats(0, 0, 0, 0) + Tell.caller(7, 0, 3, 7, 7)
            + Tell.caller(7, 0, 1, 8, 9) + Tell.caller(7, 0, 2, 5, 6) + Tell.caller(8, 30, 0, 8, 9);

    private final Edges e;
    private final WearingBench x = Tell.of(FOUR);
    private final WearingBench wait = Tell.of(WAIT);
    private final WearingBench still = Tell.of(STILL);
    private final WearingBench none = new WearingBench();
    private final WearingBench bare = Tell.of(Tell.first(0, 0, 1, 0));

    private EdgesOfDayTest(Edges edges) {
        e = edges;
    }

    public static void main(String[] args) throws Exception {
        Edges edges = new Edges("EdgesOfDayTest");
        EdgesOfDayTest t = new EdgesOfDayTest(edges);
        t.age();
        t.sits();
        t.stands();
        t.free();
        t.goes();
        t.called();
        t.ends();
        t.toldAndForgotten();
        t.gun();
        t.waits();
        t.worn();
        t.dip();
        t.deepest();
        t.youngestAndOldest();
        t.meets();
        t.ripeAndWindow();
        t.misses();
        t.grown();
        t.beside();
        t.crowd();
        t.next();
        t.years();
        t.last();
        t.twins();
        t.opens();
        edges.hasOpened(8, 35);
        edges.end();
    }

    private void refuses(int[] numbers, long want, IntToLongFunction ask, IntToLongFunction withoutBench) {
        e.each("refused", want, ask, numbers);
        e.each("without a bench", want, withoutBench, 0, 1, -1);
    }

    /** One bench of one law-0 day: a seat for each caller. */
    private static WearingBench day(int every, String... callers) {
        return Tell.of(Tell.first(0, 0, every, 0) + Tell.seats(0, 0, 0, 0, 0, 0) + String.join("", callers));
    }

    private void age() {
        e.promise(8);
        e.says("The age of a CALLER at a MINUTE (0 .. 60; II).");
        e.list("age of 0", m -> x.age(0, m), 10, 12, 14, 16, 18);
        e.is("when he comes", x.age(3, 30), 5);
        e.is("when he goes in", x.age(3, 32), 0);
        e.is("at 60", wait.age(0, 60), 29);
        e.is("at 60 of who goes in", wait.age(2, 60), 2);
        e.is("99 and standing", wait.age(4, 60), 99);
        e.says("NONE: he has not come, or went in ahead of it;");
        e.is("ahead of his coming", x.age(3, 29), -1);
        e.is("at minute 0", x.age(2, 0), -1);
        e.is("behind his going in", x.age(0, 5), -1);
        e.is("at 60", x.age(3, 60), -1);
        e.says("-2: there are none such.");
        refuses(NO_CALLER, -2, c -> x.age(c, 0), c -> none.age(c, 0));
        e.each("minute", -2, m -> x.age(0, m), NO_MINUTE);
        e.is("neither", x.age(4, 61), -2);
        e.is("nobody at all", bare.age(0, 0), -2);
    }

    private void sits() {
        e.promise(9);
        e.says("The SEAT on which he sits at a MINUTE, when all have moved and sat down that do.");
        e.list("sits of 0", m -> x.sits(0, m), 0, 0, 0, 0, 0);
        e.is("the next to the right", x.sits(1, 0), 1);
        e.is("round to the first", x.sits(2, 5), 0);
        e.is("at 60", wait.sits(0, 60), 0);
        WearingBench moves = Tell.of(FOUR);
        moves.move(2, 1, 9);
        e.is("ahead of the move", moves.sits(2, 8), 0);
        e.is("when he has moved", moves.sits(2, 9), 1);
        e.says("NONE: on none (he stands, has not come, went in);");
        e.is("stands", x.sits(2, 4), -1);
        e.is("has not come", x.sits(3, 29), -1);
        e.is("went in", x.sits(0, 5), -1);
        e.says("-2 likewise.");
        refuses(NO_CALLER, -2, c -> x.sits(c, 0), c -> none.sits(c, 0));
        e.each("minute", -2, m -> x.sits(0, m), NO_MINUTE);
    }

    private void stands() {
        e.promise(10);
        e.says("CALLERS who stand at a MINUTE, as bits.");
        e.list("stands", x::stands, 0, 4, 4, 4, 4, 0, 0);
        e.is("when he comes", wait.stands(30), 29);
        e.is("one has sat down", wait.stands(31), 28);
        e.is("at 60, also who goes in", wait.stands(60), 28);
        e.is("none, as none has come", wait.stands(0), 0);
        e.is("nobody at all", bare.stands(60), 0);
        e.says("-2: there is none such, no BENCH.");
        refuses(NO_MINUTE, -2, x::stands, none::stands);
    }

    private void free() {
        e.promise(11);
        e.says("SEATS that are free at a MINUTE, as bits.");
        e.is("none", x.free(0), 0);
        e.is("who goes in has his seat still", x.free(8), 0);
        e.is("not any more", x.free(9), 2);
        e.is("all", x.free(13), 3);
        e.is("one who came", x.free(30), 1);
        e.is("at 60", wait.free(60), 0);
        e.is("six", Tell.of(Tell.first(0, 0, 1, 0) + Tell.seats(1, 1, 1, 1, 1, 1)).free(60), 63);
        e.is("no seat", bare.free(0), 0);
        e.says("-2 likewise.");
        refuses(NO_MINUTE, -2, x::free, none::free);
    }

    private void goes() {
        e.promise(12);
        e.says("The CALLER who goes in at a MINUTE.");
        e.list("goes at 0, 4, 8, 12", i -> x.goes(4 * i), -1, 0, 1, 2);
        e.is("at 32", x.goes(32), 3);
        e.is("at 60", wait.goes(60), 2);
        e.says("NONE: none;");
        e.each("no call", -1, x::goes, 0, 1, 3, 5, 31);
        e.each("nobody is there", -1, x::goes, 16, 28, 36, 60);
        e.says("-2 likewise.");
        refuses(NO_MINUTE, -2, x::goes, none::goes);
    }

    private void called() {
        e.promise(13);
        e.says("The MINUTE at which a CALLER goes in.");
        e.list("called", x::called, 4, 8, 12, 32);
        e.is("at 60", wait.called(2), 60);
        e.is("as he comes", still.called(0), 30);
        e.says("NONE: at none;");
        e.each("forgotten", -1, wait::called, 0, 3, 4);
        e.says("-2: there is none such.");
        refuses(NO_CALLER, -2, x::called, none::called);
    }

    private void ends() {
        e.promise(14);
        e.says("How it ends for him, 0: he is told off, 1: too young, 2: too old (III), 3: forgotten.");
        e.list("ends", x::ends, 0, 0, 2, 1);
        e.list("ends", wait::ends, 3, 1, 0, 3, 3);
        e.says("-2 likewise.");
        refuses(NO_CALLER, -2, x::ends, none::ends);
    }

    private void toldAndForgotten() {
        e.promise(15);
        e.says("CALLERS who are told off, as bits.");
        e.is("0 and 1", x.told(), 3);
        e.is("2", wait.told(), 4);
        e.is("nobody at all", bare.told(), 0);
        e.is("all five", day(1, Tell.caller(5, 0, 0, 5, 5).repeat(5)).told(), 31);
        e.says("-2: there is no BENCH.");
        e.is("told", none.told(), -2);
        e.promise(16);
        e.says("Those forgotten, as bits.");
        e.is("none", x.forgotten(), 0);
        e.is("0, 3, 4", wait.forgotten(), 25);
        e.is("nobody at all", bare.forgotten(), 0);
        e.says("-2 likewise.");
        e.is("forgotten", none.forgotten(), -2);
    }

    private void gun() {
        e.promise(17);
        e.says("The first MINUTE at which one goes in who is too young.");
        e.is("3", x.gun(), 32);
        e.is("1", wait.gun(), 30);
        e.is("0", day(5, Tell.caller(5, 0, 0, 6, 9)).gun(), 5);
        e.is("the first of two, of the greater number", day(5, Tell.caller(5, 9, 0, 6, 9), Tell.caller(5, 0, 1, 6, 9)).gun(), 5);
        e.is("at 60", day(30, Tell.caller(5, 0, 0, 5, 5), Tell.caller(5, 0, 1, 6, 9)).gun(), 60);
        e.says("NONE: at none;");
        e.is("too old", day(5, Tell.caller(5, 0, 0, 0, 4)).gun(), -1);
        e.is("told off", day(5, Tell.caller(5, 0, 0, 5, 5)).gun(), -1);
        e.is("forgotten", day(30, Tell.caller(5, 0, 0, 5, 5).repeat(2), Tell.caller(5, 0, 0, 99, 99)).gun(), -1);
        e.is("nobody at all", bare.gun(), -1);
        e.says("-2 likewise.");
        e.is("gun", none.gun(), -2);
    }

    private void waits() {
        e.promise(18);
        e.says("How long a CALLER waits, from his coming till he goes in (or to 60).");
        e.list("waits", x::waits, 4, 8, 11, 2);
        e.list("to 60", wait::waits, 30, 26, 56, 55, 54);
        e.is("he goes in as he comes", day(30, Tell.caller(5, 30, 0, 0, 99)).waits(0), 0);
        e.is("all day", still.waits(2), 60);
        e.says("-2: there is none such.");
        refuses(NO_CALLER, -2, x::waits, none::waits);
    }

    private void worn() {
        e.promise(19);
        e.says("At how many MINUTES a CALLER sits on a SEAT.");
        e.list("0", s -> x.worn(0, s), 5, 0);
        e.list("1", s -> x.worn(1, s), 0, 9);
        e.list("2", s -> x.worn(2, s), 8, 0);
        e.list("3", s -> x.worn(3, s), 0, 3);
        e.is("who stands does not", wait.worn(3, 0), 0);
        e.is("to 60", wait.worn(0, 0), 30);
        e.is("all 61", still.worn(2, 2), 61);
        WearingBench moves = Tell.of(FOUR);
        moves.move(2, 1, 9);
        e.list("on two", s -> moves.worn(2, s), 4, 4);
        e.says("-2: there are none such.");
        refuses(NO_CALLER, -2, c -> x.worn(c, 0), c -> none.worn(c, 0));
        e.each("seat", -2, s -> x.worn(0, s), NO_SEAT);
    }

    private void dip() {
        e.promise(20);
        e.says("At how many MINUTES anybody does.");
        e.list("dip", x::dip, 13, 12);
        e.is("from 4 on, by two", wait.dip(0), 57);
        e.list("dip", still::dip, 31, 61, 61, 31);
        e.is("nobody", day(1).dip(5), 0);
        e.says("-2: there is none such.");
        refuses(NO_SEAT, -2, x::dip, none::dip);
        e.is("no seat", bare.dip(0), -2);
    }

    private void deepest() {
        e.promise(21);
        e.says("The SEAT on which most do, the first of several, if any does.");
        e.is("13 and 12", x.deepest(), 0);
        e.is("31, 61, 61, 31", still.deepest(), 1);
        e.is("the last", day(1, Tell.caller(5, 0, 5, 0, 99)).deepest(), 5);
        e.is("one minute alone", day(30, Tell.caller(5, 30, 4, 0, 99)).deepest(), 4);
        e.says("NONE: none;");
        e.is("nobody", day(1).deepest(), -1);
        e.is("no seat", bare.deepest(), -1);
        e.says("-2: there is no BENCH.");
        e.is("deepest", none.deepest(), -2);
    }

    private void youngestAndOldest() {
        e.promise(22);
        e.says("The youngest of those who are there (sit, stand, also who goes in) at a MINUTE, the first of several.");
        e.is("who sits", x.youngest(0), 0);
        e.is("18 and 18: the first, who goes in", x.youngest(4), 0);
        e.is("not any more", x.youngest(5), 2);
        e.is("who stands", wait.youngest(60), 2);
        e.is("0 years", wait.youngest(30), 0);
        e.says("NONE: nobody is;");
        e.is("at 13", x.youngest(13), -1);
        e.is("at 60", x.youngest(60), -1);
        e.is("nobody at all", bare.youngest(0), -1);
        e.says("-2: there is none such, no BENCH.");
        refuses(NO_MINUTE, -2, x::youngest, none::youngest);
        e.promise(23);
        e.says("The oldest.");
        e.is("who sits", x.oldest(0), 1);
        e.is("who stands", wait.oldest(60), 4);
        e.is("who goes in", x.oldest(8), 1);
        e.is("not any more", x.oldest(9), 2);
        e.is("the first of several", still.oldest(29), 0);
        e.is("of 0 years", Tell.of(Tell.first(0, 0, 5, 0) + Tell.seats(0) + Tell.caller(0, 0, 0, 0, 0)).oldest(0), 0);
        e.says("NONE, -2 likewise.");
        e.is("at 13", x.oldest(13), -1);
        e.is("at 60", x.oldest(60), -1);
        e.is("nobody at all", bare.oldest(0), -1);
        refuses(NO_MINUTE, -2, x::oldest, none::oldest);
    }

    private void meets() {
        e.promise(24);
        e.says("The first MINUTE at which two CALLERS (or one twice) are there and of one age.");
        e.is("18 at 4", x.meets(0, 2), 4);
        e.is("the other way", x.meets(2, 0), 4);
        e.list("one twice: as he comes", c -> x.meets(c, c), 0, 0, 1, 30);
        e.is("at minute 0", still.meets(0, 1), 0);
        // 0 is 27 years old when he goes in at 30
        WearingBench y = Tell.of(Tell.first(0, 0, 30, 0) + Tell.seats(1, 0) + Tell.caller(1, 4, 0, 0, 99)
                + Tell.caller(57, 4, 1, 0, 99));
        e.is("not of one age till he goes in", y.meets(0, 1), -1);
        WearingBench z = Tell.of(Tell.first(0, 0, 30, 0) + Tell.seats(1, 0) + Tell.caller(1, 4, 0, 0, 99)
                + Tell.caller(27, 4, 1, 0, 99));
        e.is("of one age when he goes in", z.meets(0, 1), 30);
        e.says("NONE: at none;");
        e.is("never of one age", x.meets(0, 1), -1);
        e.is("never there at once, though of one age (none)", x.meets(0, 3), -1);
        e.is("the other way", x.meets(3, 0), -1);
        e.says("-2: there are none such.");
        refuses(NO_CALLER, -2, c -> x.meets(c, 0), c -> none.meets(c, 0));
        refuses(NO_CALLER, -2, c -> x.meets(0, c), c -> none.meets(0, c));
        e.is("one twice", x.meets(4, 4), -2);
    }

    private void ripeAndWindow() {
        e.promise(25);
        e.says("The first MINUTE at which a CALLER is there and of an age to be told off.");
        e.list("ripe", x::ripe, 4, 7, 1, -1);
        e.is("at 60", Tell.of(Tell.first(0, 0, 30, 0) + Tell.seats(0, 1) + Tell.caller(0, 0, 0, 0, 0)
                + Tell.caller(0, 0, 1, 60, 60)).ripe(1), 60);
        e.is("least", still.ripe(0), 0);
        e.is("forgotten, but of that age", wait.ripe(0), 30);
        e.says("NONE: at none;");
        e.is("never", x.ripe(3), -1);
        e.is("one year too young", still.ripe(1), -1);
        e.is("one year too old", still.ripe(2), -1);
        e.says("-2: there is none such.");
        refuses(NO_CALLER, -2, x::ripe, none::ripe);
        e.promise(26);
        e.says("At how many MINUTES he is.");
        e.list("window", x::window, 1, 2, 5, 0);
        e.list("window", still::window, 31, 0, 0, 31);
        // he is 0 years at 30 and, standing, at 31, when he sits down
        e.is("till he grows", wait.window(0), 2);
        e.is("all 61", day(30, Tell.caller(5, 0, 0, 5, 5).repeat(3)).window(2), 61);
        e.says("-2 likewise.");
        refuses(NO_CALLER, -2, x::window, none::window);
    }

    private void misses() {
        e.promise(27);
        e.says("By how many years a CALLER is too young or too old when he goes in (0: he is told off).");
        e.list("misses", x::misses, 0, 0, 14, 90);
        String[] ages = {Tell.caller(20, 0, 0, 20, 25), Tell.caller(25, 0, 0, 20, 25), Tell.caller(19, 0, 0, 20, 25),
            Tell.caller(26, 0, 0, 20, 25), Tell.caller(99, 0, 0, 0, 0)};
        e.list("at the edges", day(1, ages)::misses, 0, 0, 1, 1, 99);
        e.says("NONE: he does not go in;");
        e.each("forgotten", -1, wait::misses, 0, 3, 4);
        e.says("-2 likewise.");
        refuses(NO_CALLER, -2, x::misses, none::misses);
    }

    private void grown() {
        e.promise(28);
        e.says("His age when he goes in less his age told (0, if he does not).");
        e.list("grown", x::grown, 8, -24, 14, -5);
        e.list("forgotten, though older", wait::grown, 0, 26, 0, 0, 0);
        WearingBench y = Tell.of(Tell.first(0, 0, 30, 0) + Tell.seats(9, -9) + Tell.caller(0, 0, 0, 0, 0)
                + Tell.caller(99, 0, 1, 0, 0));
        e.list("99 and -99", y::grown, 99, -99);
        e.says("-100: there is none such.");
        refuses(NO_CALLER, -100, x::grown, none::grown);
    }

    private void beside() {
        e.promise(29);
        e.says("CALLERS who sit one SEAT to either side of a CALLER at a MINUTE (sits()), as bits (0, if he does not sit).");
        e.list("three in a row", c -> still.beside(c, 0), 4, 4, 3, 0);
        e.list("and one from 30 on", c -> still.beside(c, 30), 4, 12, 3, 2);
        e.is("not beside himself", x.beside(0, 0), 2);
        e.is("who goes in sits still", x.beside(1, 4), 1);
        e.is("who stands", x.beside(2, 4), 0);
        e.is("who has not come", x.beside(3, 4), 0);
        e.is("who went in", x.beside(0, 5), 0);
        e.is("nobody beside him", x.beside(2, 12), 0);
        WearingBench ends = day(30, Tell.caller(5, 0, 0, 0, 99), Tell.caller(5, 0, 5, 0, 99), Tell.caller(5, 0, 2, 0, 99));
        e.list("the ends are not beside one another, nor is one seat off", c -> ends.beside(c, 60), 0, 0, 0);
        e.list("at 0", c -> ends.beside(c, 0), 0, 0, 0);
        e.says("-2: there are none such.");
        refuses(NO_CALLER, -2, c -> x.beside(c, 0), c -> none.beside(c, 0));
        e.each("minute", -2, m -> x.beside(0, m), NO_MINUTE);
        e.is("a minute that is none, of one who stands", x.beside(2, 61), -2);
    }

    private void crowd() {
        e.promise(30);
        e.says("The most CALLERS who are there at one MINUTE (those who go in at it, too).");
        e.is("three", x.crowd(), 3);
        e.is("five, also those who stand", wait.crowd(), 5);
        e.is("one goes in as another comes", day(5, Tell.caller(5, 0, 0, 0, 99), Tell.caller(5, 5, 0, 0, 99)).crowd(), 2);
        e.is("one goes in ahead of it", day(5, Tell.caller(5, 0, 0, 0, 99), Tell.caller(5, 6, 0, 0, 99)).crowd(), 1);
        e.is("nobody at all", bare.crowd(), 0);
        e.says("-2: there is no BENCH.");
        e.is("crowd", none.crowd(), -2);
    }

    private void next() {
        e.promise(31);
        e.says("Who would go in at a MINUTE, were it a call.");
        e.is("at 0, which is none", x.next(0), 0);
        e.is("at a call", x.next(4), 0);
        e.is("behind it", x.next(5), 1);
        e.is("who came first, though he stands", wait.next(60), 2);
        e.is("of several the least number", wait.next(4), 1);
        e.is("not the least number", wait.next(31), 2);
        e.says("NONE: nobody is there;");
        e.is("at 13", x.next(13), -1);
        e.is("at 60", x.next(60), -1);
        e.is("none has come", wait.next(3), -1);
        e.is("nobody at all", bare.next(0), -1);
        e.says("-2: there is none such, no BENCH.");
        refuses(NO_MINUTE, -2, x::next, none::next);
    }

    private void years() {
        e.promise(32);
        e.says("The ages of those there at a MINUTE, together.");
        e.is("10 and 50", x.years(0), 60);
        e.is("18, 38 and 18", x.years(4), 74);
        e.is("35 and 18", x.years(5), 53);
        e.is("nobody", x.years(13), 0);
        e.is("at 60", wait.years(60), 29 + 2 + 3 + 99);
        e.is("nobody at all", bare.years(60), 0);
        e.says("-2 likewise.");
        refuses(NO_MINUTE, -2, x::years, none::years);
    }

    private void last() {
        e.promise(33);
        e.says("The last MINUTE at which one goes in.");
        e.is("32", x.last(), 32);
        e.is("60", wait.last(), 60);
        e.is("of the lesser number", day(5, Tell.caller(5, 9, 0, 0, 99), Tell.caller(5, 0, 1, 0, 99)).last(), 10);
        e.says("NONE: none does;");
        e.is("nobody at all", bare.last(), -1);
        e.says("-2: there is no BENCH.");
        e.is("last", none.last(), -2);
    }

    private void twins() {
        e.promise(34);
        e.says("Pairs of unlike CALLERS who are there at a MINUTE and of one age: how many.");
        e.is("three of three", still.twins(0), 3);
        e.is("four there", still.twins(30), 3);
        e.is("two left", still.twins(31), 1);
        e.is("one of three", x.twins(4), 1);
        e.is("none", x.twins(3), 0);
        e.is("those not there are of no age", x.twins(60), 0);
        e.is("ten of five", day(30, Tell.caller(5, 0, 0, 0, 99).repeat(5)).twins(0), 10);
        e.is("six of four at 60", day(30, Tell.caller(5, 0, 0, 0, 99).repeat(5)).twins(60), 6);
        e.is("nobody at all", bare.twins(0), 0);
        e.says("-2: there is none such, no BENCH.");
        refuses(NO_MINUTE, -2, x::twins, none::twins);
    }

    private void opens() {
        e.promise(35);
        e.says("The CALLER who sits on a SEAT first.");
        e.list("opens", x::opens, 0, 1);
        e.is("of several the first in time", wait.opens(0), 1);
        WearingBench late = day(30, Tell.caller(5, 0, 0, 0, 99).repeat(3));
        late.move(2, 5, 60);
        e.is("at 60", late.opens(5), 2);
        WearingBench change = day(30, Tell.caller(5, 0, 0, 0, 99), Tell.caller(5, 0, 1, 0, 99));
        change.move(1, 2, 1);
        change.move(0, 1, 1);
        e.list("at 0 alone", change::opens, 0, 1, 1);
        e.says("NONE: nobody does;");
        e.is("nobody", late.opens(4), -1);
        e.is("nobody at all", day(1).opens(0), -1);
        e.says("-2: there is none such.");
        refuses(NO_SEAT, -2, x::opens, none::opens);
        e.is("no seat", bare.opens(0), -2);
    }
}
