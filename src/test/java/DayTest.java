/** Promises 8 to 35: the day as it is, by answers reckoned by hand. */
public final class DayTest {
    private static final Due DUE = new Due("DayTest");

    /**
     * 0 sits on seat 0, 1 finds it taken and sits on 1, 2 stands till 0 has gone in at 4 and sits down
     * at 5, 3 comes at 30. Called at 4, 8, 12, 32.
     */
    private static final String FOUR = "bench law 0 wear 0 every 4 odds 0;seat gives 2;seat takes 3;"
            + "caller age 10 comes 0 seat 0 told 18 to 20;caller age 50 comes 0 seat 0 told 0 to 30;"
            + "caller age 18 comes 1 seat 1 told 18 to 18;caller age 5 comes 30 seat 1 told 90 to 99;";

    public static void main(String[] args) {
        agesAndSeats();
        byMinute();
        byCaller();
        bySeat();
        wholeDay();
        forgotten();
        laws();
        lawTwoAndMoves();
        lawThree();
        wrongInputs();
        nobody();
        DUE.end();
    }

    private static void row(String call, int[] want, int[] got) {
        for (int i = 0; i < want.length; i++) {
            DUE.is(call + " " + i, got[i], want[i]);
        }
    }

    private static int[] ages(WearingBench x, int caller, int from, int n) {
        int[] ages = new int[n];
        for (int i = 0; i < n; i++) {
            ages[i] = x.age(caller, from + i);
        }
        return ages;
    }

    private static int[] sits(WearingBench x, int caller, int from, int n) {
        int[] seats = new int[n];
        for (int i = 0; i < n; i++) {
            seats[i] = x.sits(caller, from + i);
        }
        return seats;
    }

    private static void agesAndSeats() {
        WearingBench x = Tell.of(FOUR);
        row("age 0", new int[] {10, 12, 14, 16, 18, -1, -1}, ages(x, 0, 0, 7));
        row("age 1", new int[] {50, 47, 44, 41, 38, 35, 32, 29, 26, -1}, ages(x, 1, 0, 10));
        row("age 2", new int[] {-1, 18, 18, 18, 18, 18, 20, 22, 24, 26, 28, 30, 32, -1}, ages(x, 2, 0, 14));
        row("age 3", new int[] {-1, 5, 2, 0, -1}, ages(x, 3, 29, 5));
        row("sits 0", new int[] {0, 0, 0, 0, 0, -1}, sits(x, 0, 0, 6));
        row("sits 1", new int[] {1, 1, 1, 1, 1, 1, 1, 1, 1, -1}, sits(x, 1, 0, 10));
        row("sits 2", new int[] {-1, -1, -1, -1, -1, 0, 0}, sits(x, 2, 0, 7));
        row("sits 3", new int[] {-1, 1, 1, 1, -1}, sits(x, 3, 29, 5));
    }

    private static void byMinute() {
        WearingBench x = Tell.of(FOUR);
        DUE.is("stands 0", x.stands(0), 0);
        DUE.is("stands 1", x.stands(1), 4);
        DUE.is("stands 4", x.stands(4), 4);
        DUE.is("stands 5", x.stands(5), 0);
        DUE.is("free 0", x.free(0), 0);
        DUE.is("free 4", x.free(4), 0);
        DUE.is("free 5", x.free(5), 0);
        DUE.is("free 9", x.free(9), 2);
        DUE.is("free 13", x.free(13), 3);
        DUE.is("free 60", x.free(60), 3);
        DUE.is("goes 0", x.goes(0), -1);
        DUE.is("goes 3", x.goes(3), -1);
        DUE.is("goes 4", x.goes(4), 0);
        DUE.is("goes 32", x.goes(32), 3);
        DUE.is("goes 60", x.goes(60), -1);
        DUE.is("youngest 0", x.youngest(0), 0);
        DUE.is("youngest of several", x.youngest(4), 0);
        DUE.is("youngest 5", x.youngest(5), 2);
        DUE.is("youngest of none", x.youngest(13), -1);
        DUE.is("oldest 0", x.oldest(0), 1);
        DUE.is("oldest 9", x.oldest(9), 2);
        DUE.is("oldest of none", x.oldest(60), -1);
        DUE.is("next 0", x.next(0), 0);
        DUE.is("next 4", x.next(4), 0);
        DUE.is("next 5", x.next(5), 1);
        DUE.is("next 9", x.next(9), 2);
        DUE.is("next 13", x.next(13), -1);
        DUE.is("next 30", x.next(30), 3);
        DUE.is("years 0", x.years(0), 60);
        DUE.is("years 4", x.years(4), 74);
        DUE.is("years 13", x.years(13), 0);
        DUE.is("twins 3", x.twins(3), 0);
        DUE.is("twins 4", x.twins(4), 1);
        WearingBench y = Tell.of("bench law 0 wear 0 every 30 odds 0;seat gives 0;seat gives 0;seat gives 0;"
                + "caller age 7 comes 2 seat 0 told 0 to 0;caller age 7 comes 1 seat 0 told 0 to 0;"
                + "caller age 7 comes 0 seat 0 told 0 to 0;");
        DUE.is("three twins", y.twins(2), 3);
        DUE.is("oldest of several", y.oldest(2), 0);
        DUE.is("who came first", y.next(2), 2);
    }

    private static void byCaller() {
        WearingBench x = Tell.of(FOUR);
        int[] called = {4, 8, 12, 32};
        int[] ends = {0, 0, 2, 1};
        int[] waits = {4, 8, 11, 2};
        int[] ripe = {4, 7, 1, -1};
        int[] window = {1, 2, 5, 0};
        int[] misses = {0, 0, 14, 90};
        int[] grown = {8, -24, 14, -5};
        for (int c = 0; c < 4; c++) {
            DUE.is("called " + c, x.called(c), called[c]);
            DUE.is("ends " + c, x.ends(c), ends[c]);
            DUE.is("waits " + c, x.waits(c), waits[c]);
            DUE.is("ripe " + c, x.ripe(c), ripe[c]);
            DUE.is("window " + c, x.window(c), window[c]);
            DUE.is("misses " + c, x.misses(c), misses[c]);
            DUE.is("grown " + c, x.grown(c), grown[c]);
            DUE.is("meets self " + c, x.meets(c, c), x.caller(c, 1));
        }
        DUE.is("meets 0 2", x.meets(0, 2), 4);
        DUE.is("meets 2 0", x.meets(2, 0), 4);
        DUE.is("meets 0 1", x.meets(0, 1), -1);
        DUE.is("not there is no age", x.meets(0, 3), -1);
        DUE.is("beside 0 0", x.beside(0, 0), 2);
        DUE.is("beside 1 3", x.beside(1, 3), 1);
        DUE.is("beside of one who stands", x.beside(2, 4), 0);
        DUE.is("beside 2 5", x.beside(2, 5), 2);
        DUE.is("beside 2 9", x.beside(2, 9), 0);
        DUE.is("beside of one not there", x.beside(3, 0), 0);
    }

    private static void bySeat() {
        WearingBench x = Tell.of(FOUR);
        DUE.is("worn 0 0", x.worn(0, 0), 5);
        DUE.is("worn 1 1", x.worn(1, 1), 9);
        DUE.is("worn 1 0", x.worn(1, 0), 0);
        DUE.is("worn 2 0", x.worn(2, 0), 8);
        DUE.is("worn 3 1", x.worn(3, 1), 3);
        DUE.is("dip 0", x.dip(0), 13);
        DUE.is("dip 1", x.dip(1), 12);
        DUE.is("deepest", x.deepest(), 0);
        DUE.is("opens 0", x.opens(0), 0);
        DUE.is("opens 1", x.opens(1), 1);
        WearingBench y = Tell.of("bench law 0 wear 0 every 30 odds 0;seat gives 0;seat gives 0;seat gives 0;seat gives 0;"
                + "caller age 7 comes 2 seat 3 told 0 to 0;caller age 7 comes 2 seat 1 told 0 to 0;");
        DUE.is("first of several", Tell.of("bench law 0 wear 0 every 1 odds 0;seat gives 1;seat gives 1;"
                + "caller age 7 comes 2 seat 1 told 0 to 0;caller age 7 comes 9 seat 0 told 0 to 0;").deepest(), 0);
        DUE.is("not the first one", y.deepest(), 1);
        DUE.is("nobody opens", y.opens(0), -1);
        DUE.is("opens 3", y.opens(3), 0);
    }

    private static void wholeDay() {
        WearingBench x = Tell.of(FOUR);
        DUE.is("told", x.told(), 3);
        DUE.is("forgotten", x.forgotten(), 0);
        DUE.is("gun", x.gun(), 32);
        DUE.is("crowd", x.crowd(), 3);
        DUE.is("last", x.last(), 32);
    }

    /** Calls at 30 and 60 alone, and five who wait on one seat. */
    private static void forgotten() {
        WearingBench x = Tell.of("bench law 0 wear 0 every 30 odds 0;seat gives 1;"
                + "caller age 0 comes 30 seat 0 told 0 to 0;caller age 1 comes 4 seat 0 told 99 to 99;"
                + "caller age 2 comes 4 seat 0 told 0 to 99;caller age 3 comes 5 seat 0 told 0 to 99;"
                + "caller age 99 comes 6 seat 0 told 0 to 99;");
        DUE.is("least number of those who came first", x.called(1), 30);
        DUE.is("also at 60", x.called(2), 60);
        DUE.is("who stands sits down by numbers", x.sits(0, 31), 0);
        DUE.is("age of one who stood all day", x.age(2, 60), 2);
        DUE.is("told", x.told(), 4);
        DUE.is("forgotten", x.forgotten(), 25);
        DUE.is("ends forgotten", x.ends(0), 3);
        DUE.is("called never", x.called(0), -1);
        DUE.is("misses never", x.misses(0), -1);
        DUE.is("grown never", x.grown(0), 0);
        DUE.is("waits to 60", x.waits(0), 30);
        DUE.is("waits 4", x.waits(4), 54);
        DUE.is("gun", x.gun(), 30);
        DUE.is("last", x.last(), 60);
        DUE.is("crowd", x.crowd(), 5);
        DUE.is("stands", x.stands(30), 29);
        DUE.is("there at 60", x.age(4, 60), 99);
        DUE.is("no call at 0", x.goes(0), -1);
        DUE.is("99 at most", Tell.of("bench law 0 wear 0 every 30 odds 0;seat gives 9;"
                + "caller age 95 comes 0 seat 0 told 99 to 99;").grown(0), 4);
        DUE.is("0 at least", Tell.of("bench law 0 wear 0 every 30 odds 0;seat takes 9;"
                + "caller age 5 comes 0 seat 0 told 0 to 0;").told(), 1);
    }

    private static void laws() {
        String seats = "seat gives 3;seat takes 3;";
        String callers = "caller age 10 comes 0 seat 0 told 0 to 99;caller age 20 comes 1 seat 1 told 0 to 99;";
        WearingBench x = Tell.of("bench law 1 wear 14 every 30 odds 0;" + seats + callers);
        row("law 1 from below", new int[] {10, 13, 14, 14, 14}, ages(x, 0, 0, 5));
        row("law 1 from above", new int[] {20, 17, 14, 14, 14}, ages(x, 1, 1, 5));
        WearingBench y = Tell.of("bench law 2 wear 14 every 30 odds 0;" + seats + callers);
        row("law 2 gives", new int[] {10, 13, 13, 16, 16, 19}, ages(y, 0, 0, 6));
        row("law 2 takes", new int[] {20, 17, 17, 14, 14, 11}, ages(y, 1, 1, 6));
    }

    private static void lawTwoAndMoves() {
        WearingBench x = Tell.of("bench law 2 wear 0 every 30 odds 0;seat gives 1;seat gives 5;"
                + "caller age 10 comes 0 seat 0 told 0 to 99;");
        x.move(0, 1, 3);
        row("a new seat begins anew", new int[] {10, 11, 11, 12, 17, 17, 22}, ages(x, 0, 0, 7));
        x.move(0, 0, 4);
        row("and back", new int[] {10, 11, 11, 12, 17, 18, 18}, ages(x, 0, 0, 7));
        x.anew();
        // away and back within one minute: at each minute he sat on seat 0
        x.move(0, 1, 1);
        x.move(0, 0, 1);
        row("away and back at once", new int[] {10, 11, 11, 12, 12}, ages(x, 0, 0, 5));
    }

    private static void lawThree() {
        WearingBench x = Tell.of("bench law 3 wear 0 every 5 odds 0;seat gives 1;seat takes 1;seat gives 0;seat gives 0;"
                + "caller age 10 comes 0 seat 0 told 0 to 99;caller age 20 comes 1 seat 1 told 0 to 99;"
                + "caller age 30 comes 2 seat 2 told 0 to 99;");
        row("law 3, 0", new int[] {10, 11, 13, 15, 17, 19, -1}, ages(x, 0, 0, 7));
        // from 5 on, when 0 has gone in, no neighbour sits at his left any more
        row("law 3, 1", new int[] {20, 20, 21, 22, 23, 23, 23}, ages(x, 1, 1, 7));
        row("law 3, 2", new int[] {30, 31, 32, 33, 34}, ages(x, 2, 2, 5));
        WearingBench ends = Tell.of("bench law 3 wear 0 every 30 odds 0;seat gives 0;seat gives 0;seat gives 0;"
                + "caller age 10 comes 0 seat 0 told 0 to 99;caller age 20 comes 0 seat 2 told 0 to 99;");
        DUE.is("the ends are no neighbours", ends.age(0, 9), 10);
        DUE.is("not beside", ends.beside(0, 0), 0);
    }

    private static void wrongInputs() {
        WearingBench x = Tell.of(FOUR);
        int[] noCaller = {-1, 4, 5, Integer.MIN_VALUE, Integer.MAX_VALUE};
        for (int c : noCaller) {
            DUE.is("age of " + c, x.age(c, 0), -2);
            DUE.is("sits of " + c, x.sits(c, 0), -2);
            DUE.is("called " + c, x.called(c), -2);
            DUE.is("ends " + c, x.ends(c), -2);
            DUE.is("waits " + c, x.waits(c), -2);
            DUE.is("worn " + c, x.worn(c, 0), -2);
            DUE.is("meets " + c, x.meets(c, 0), -2);
            DUE.is("meets other " + c, x.meets(0, c), -2);
            DUE.is("ripe " + c, x.ripe(c), -2);
            DUE.is("window " + c, x.window(c), -2);
            DUE.is("misses " + c, x.misses(c), -2);
            DUE.is("grown " + c, x.grown(c), -100);
            DUE.is("beside " + c, x.beside(c, 0), -2);
        }
        int[] noMinute = {-1, 61, Integer.MIN_VALUE, Integer.MAX_VALUE};
        for (int m : noMinute) {
            DUE.is("age at " + m, x.age(0, m), -2);
            DUE.is("sits at " + m, x.sits(0, m), -2);
            DUE.is("stands " + m, x.stands(m), -2);
            DUE.is("free " + m, x.free(m), -2);
            DUE.is("goes " + m, x.goes(m), -2);
            DUE.is("youngest " + m, x.youngest(m), -2);
            DUE.is("oldest " + m, x.oldest(m), -2);
            DUE.is("beside at " + m, x.beside(0, m), -2);
            DUE.is("next " + m, x.next(m), -2);
            DUE.is("years " + m, x.years(m), -2);
            DUE.is("twins " + m, x.twins(m), -2);
        }
        int[] noSeat = {-1, 2, 6, Integer.MIN_VALUE, Integer.MAX_VALUE};
        for (int s : noSeat) {
            DUE.is("worn seat " + s, x.worn(0, s), -2);
            DUE.is("dip " + s, x.dip(s), -2);
            DUE.is("opens " + s, x.opens(s), -2);
        }
    }

    private static void nobody() {
        WearingBench x = new WearingBench();
        DUE.is("no bench told", x.told(), -2);
        DUE.is("no bench forgotten", x.forgotten(), -2);
        DUE.is("no bench gun", x.gun(), -2);
        DUE.is("no bench deepest", x.deepest(), -2);
        DUE.is("no bench crowd", x.crowd(), -2);
        DUE.is("no bench last", x.last(), -2);
        DUE.is("no bench stands", x.stands(0), -2);
        DUE.is("no bench free", x.free(0), -2);
        DUE.is("no bench goes", x.goes(0), -2);
        DUE.is("no bench youngest", x.youngest(0), -2);
        DUE.is("no bench oldest", x.oldest(0), -2);
        DUE.is("no bench next", x.next(0), -2);
        DUE.is("no bench years", x.years(0), -2);
        DUE.is("no bench twins", x.twins(0), -2);
        DUE.is("no bench grown", x.grown(0), -100);
        Tell.bench(x, "bench law 0 wear 0 every 1 odds 0;seat gives 1;seat gives 1;");
        DUE.is("nobody told", x.told(), 0);
        DUE.is("nobody forgotten", x.forgotten(), 0);
        DUE.is("nobody gun", x.gun(), -1);
        DUE.is("nobody deepest", x.deepest(), -1);
        DUE.is("nobody crowd", x.crowd(), 0);
        DUE.is("nobody last", x.last(), -1);
        DUE.is("nobody free", x.free(60), 3);
        DUE.is("nobody opens", x.opens(1), -1);
        DUE.is("nobody dips", x.dip(1), 0);
    }
}
