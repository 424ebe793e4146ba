/** Promises 36 to 61: the day as it would be, what was seen, marks, games; edges and wrong inputs. */
public final class WouldBeTest {
    private static final Due DUE = new Due("WouldBeTest");

    /** One seat gives a year a minute, one takes none; a call at 5, 10, .. */
    private static final String TWO = "bench law 0 wear 0 every 5 odds 0;seat gives 1;seat gives 0;"
            + "caller age 10 comes 0 seat 0 told 15 to 15;caller age 20 comes 0 seat 0 told 20 to 20;";

    private static final int[] WRONG = {-1, 5, 6, Integer.MIN_VALUE, Integer.MAX_VALUE};

    public static void main(String[] args) {
        withoutOne();
        otherSeats();
        hourAndYouth();
        plans();
        everies();
        laws();
        sights();
        wrongSights();
        marks();
        wrongMarks();
        games();
        swaps();
        wrongInputs();
        DUE.end();
    }

    private static void withoutOne() {
        WearingBench x = Tell.of(TWO);
        DUE.is("told", x.told(), 3);
        DUE.is("without 0: 1 sits on seat 0, and is 25 at 5", x.without(0), 0);
        DUE.is("without 1", x.without(1), 1);
        DUE.is("helps none", x.helps(0), 0);
        WearingBench y = Tell.of("bench law 0 wear 0 every 5 odds 0;seat gives 1;"
                + "caller age 10 comes 0 seat 0 told 99 to 99;caller age 20 comes 0 seat 0 told 25 to 25;");
        DUE.is("he stands till 5 and is 24 at 10", y.told(), 0);
        DUE.is("he sits on it at once, and is 25 at 5", y.without(0), 2);
        WearingBench z = Tell.of("bench law 0 wear 0 every 5 odds 0;seat gives 1;"
                + "caller age 10 comes 0 seat 0 told 99 to 99;caller age 20 comes 1 seat 0 told 24 to 24;");
        DUE.is("24 at 10, too", z.told(), 2);
        DUE.is("24 at 5", z.without(0), 2);
        DUE.is("helps nobody told off now", z.helps(0), 0);
        WearingBench w = Tell.of("bench law 0 wear 0 every 5 odds 0;seat gives 2;"
                + "caller age 10 comes 0 seat 0 told 99 to 99;caller age 20 comes 0 seat 0 told 30 to 30;");
        DUE.is("28 at 10", w.told(), 0);
        DUE.is("30 at 5", w.without(0), 2);
        DUE.is("helps 1", w.helps(0), 2);
        DUE.is("helps himself not", w.helps(1), 0);
    }

    private static void otherSeats() {
        WearingBench x = Tell.of(TWO);
        DUE.is("less 0", x.less(0), 2);
        DUE.is("less 1", x.less(1), 3);
        DUE.is("tuned 0", x.tuned(0), 1);
        DUE.is("tuned 1", x.tuned(1), 0);
        DUE.is("the least of several", Tell.of("bench law 0 wear 0 every 5 odds 0;seat gives 1;").tuned(0), -9);
        DUE.is("suits 0", x.suits(0), 1);
        // told 0 or 1 he finds himself on seat 1, as seat 0 is taken
        DUE.is("suits 1", x.suits(1), 3);
        DUE.is("moved to a seat that is taken, as now", x.moved(1, 2), 3);
        DUE.is("moved when he has not come", x.moved(0, 0), 3);
        DUE.is("moved when he went in", x.moved(0, 6), 3);
        x.end(0);
        WearingBench y = Tell.of("bench law 0 wear 0 every 10 odds 0;seat gives 1;seat gives 0;seat gives 2;"
                + "caller age 10 comes 0 seat 0 told 16 to 16;");
        DUE.is("moved at 6 to seat 1", y.moved(0, 6), 2);
        DUE.is("no act", y.count(6), 0);
        y.move(0, 1, 6);
        DUE.is("behind the other moves of it", y.moved(0, 6), 2);
        DUE.is("told off now", y.told(), 1);
        for (int i = 1; i < 40; i++) {
            y.move(0, 1, 6);
        }
        DUE.is("also behind forty acts", y.moved(0, 9), 2);
        DUE.is("to seat 0 at 9, one year more", y.moved(0, 10), 7);
    }

    private static void hourAndYouth() {
        WearingBench x = Tell.of("bench law 0 wear 0 every 10 odds 0;seat gives 1;"
                + "caller age 10 comes 5 seat 0 told 13 to 13;");
        DUE.is("7, 17, 27", x.hour(0), 7);
        DUE.is("youth", x.youth(0), 8);
        WearingBench y = Tell.of("bench law 0 wear 0 every 10 odds 0;seat gives 1;"
                + "caller age 10 comes 12 seat 0 told 13 to 13;");
        DUE.is("the earlier of two", y.hour(0), 7);
        WearingBench z = Tell.of("bench law 0 wear 0 every 10 odds 0;seat gives 1;"
                + "caller age 10 comes 13 seat 0 told 13 to 13;");
        DUE.is("the nearer of two", z.hour(0), 17);
        WearingBench w = Tell.of("bench law 0 wear 0 every 10 odds 0;seat gives 1;"
                + "caller age 10 comes 13 seat 0 told 5 to 5;");
        DUE.is("no hour", w.hour(0), -1);
        DUE.is("no youth", w.youth(0), -1);
        DUE.is("as told", w.caller(0, 1), 13);
        WearingBench own = Tell.of("bench law 0 wear 0 every 10 odds 0;seat gives 0;"
                + "caller age 99 comes 30 seat 0 told 99 to 99;");
        DUE.is("his own", own.hour(0), 30);
        DUE.is("the last age", own.youth(0), 99);
    }

    private static void plans() {
        WearingBench x = Tell.of("bench law 0 wear 0 every 5 odds 0;seat gives 1;seat gives 0;seat gives 2;"
                + "caller age 10 comes 0 seat 0 told 10 to 10;caller age 20 comes 0 seat 0 told 40 to 40;");
        // 0 on seat 1, and 1 on seat 2: told 2, or told 1, which is taken
        DUE.is("best", x.best(), 2);
        DUE.is("plan 0", x.plan(0), 1);
        DUE.is("plan 1", x.plan(1), 1);
        DUE.is("ways", x.ways(), 2);
        x.move(0, 0, 1);
        // moved from seat 1 he is 14 at 5: only if seat 0 is taken then he is not
        DUE.is("best with a move", x.best(), 1);
        DUE.is("plan is made anew", x.plan(0), 0);
        x.undo();
        DUE.is("best again", x.best(), 2);
        WearingBench y = Tell.of("bench law 0 wear 0 every 30 odds 0;seat gives 1;seat gives 1;"
                + "caller age 10 comes 0 seat 1 told 99 to 99;");
        DUE.is("none told off", y.best(), 0);
        DUE.is("the least row", y.plan(0), 0);
        DUE.is("all rows", y.ways(), 2);
    }

    private static void everies() {
        WearingBench x = Tell.of(TWO);
        DUE.is("every", x.every(), 5);
        DUE.is("calls", x.calls(), 2);
        DUE.is("none", x.none(), 1);
        WearingBench y = Tell.of("bench law 0 wear 0 every 30 odds 0;seat gives 1;"
                + "caller age 10 comes 30 seat 0 told 10 to 99;");
        DUE.is("the least of several", y.every(), 1);
        DUE.is("none forgotten", y.none(), 1);
        WearingBench z = Tell.of("bench law 0 wear 0 every 7 odds 0;seat gives 1;"
                + "caller age 10 comes 0 seat 0 told 39 to 40;");
        DUE.is("29 minutes", z.every(), 29);
        DUE.is("how many", z.calls(), 1);
        WearingBench w = Tell.of("bench law 0 wear 0 every 7 odds 0;seat gives 1;"
                + "caller age 10 comes 0 seat 0 told 40 to 40;");
        DUE.is("30 minutes", w.every(), 30);
        DUE.is("how many by 30", w.calls(), 1);
    }

    private static void laws() {
        WearingBench x = Tell.of("bench law 0 wear 12 every 5 odds 0;seat gives 1;"
                + "caller age 10 comes 0 seat 0 told 12 to 13;");
        DUE.is("by 0", x.by(0), 0);
        DUE.is("by 1", x.by(1), 1);
        DUE.is("by 2", x.by(2), 1);
        DUE.is("by 3", x.by(3), 0);
        DUE.is("law", x.law(), 1);
        DUE.is("the law told stays", x.count(1), 0);
    }

    private static void sights() {
        WearingBench x = Tell.of("bench law 0 wear 12 every 5 odds 0;seat gives 1;seat takes 1;seat gives 0;"
                + "caller age 10 comes 1 seat 0 told 12 to 13;");
        x.row(0, 0, 0);
        DUE.is("nothing seen", x.laws(0), 15);
        DUE.is("any seat", x.sat(0, 0), 7);
        DUE.is("ask at once he has grown", x.ask(0, 0), 2);
        Tell.row(x, 0, 0, 0, 3, 12);
        DUE.is("by 0, 1, 3", x.laws(0), 11);
        DUE.is("seat 0", x.sat(0, 0), 1);
        DUE.is("nothing to ask", x.ask(0, 0), -1);
        Tell.row(x, 0, 3, 0, 0, -1, 0, 6, -1, 0, 1, 10);
        DUE.is("not there", x.laws(0), 15);
        DUE.is("all seats", x.sat(0, 0), 7);
        Tell.row(x, 0, 1, 0, 3, 99);
        DUE.is("no law", x.laws(0), 0);
        DUE.is("no seat", x.sat(0, 0), 0);
        DUE.is("no seat to ask for", x.ask(0, 0), -1);
        WearingBench y = Tell.of("bench law 0 wear 12 every 5 odds 0;seat gives 1;seat gives 1;seat gives 1;"
                + "caller age 10 comes 1 seat 0 told 12 to 13;");
        y.row(3, 2, 0);
        DUE.is("not fewer than now", y.ask(3, 0), -1);
    }

    private static void wrongSights() {
        WearingBench x = Tell.of(TWO);
        DUE.is("no row", x.laws(0), -6);
        DUE.is("no row, sat", x.sat(0, 0), -6);
        DUE.is("no row, ask", x.ask(0, 0), -6);
        DUE.is("slot 4", x.laws(4), -2);
        DUE.is("slot -1", x.laws(-1), -2);
        DUE.is("slot 4, sat", x.sat(4, 0), -2);
        DUE.is("slot -1, ask", x.ask(-1, 0), -2);
        DUE.is("-2 ahead of -6", x.sat(0, 2), -2);
        DUE.is("-2 ahead of -6, ask", x.ask(0, -1), -2);
        long[][] wrong = {{0}, {0, 1}, {0, 1, 2, 0}, {2, 0, 0}, {-1, 0, 0}, {0, -1, 0}, {0, 61, 0}, {0, 0, -2},
            {0, 0, 100}, {4294967296L, 0, 10}, {0, 4294967296L, 10}, {0, 0, 4294967306L}, {0, 0, 10, 0, 0, 100}};
        for (long[] row : wrong) {
            Tell.row(x, 1, 3, row);
            DUE.is("laws of " + java.util.Arrays.toString(row), x.laws(1), -2);
            DUE.is("sat of " + java.util.Arrays.toString(row), x.sat(1, 0), -2);
            DUE.is("ask of " + java.util.Arrays.toString(row), x.ask(1, 0), -2);
        }
        Tell.row(x, 1, 2, 4294967296L, 0, 10);
        DUE.is("cut to 0", x.laws(1), 15);
        WearingBench y = new WearingBench();
        y.row(0, 0, 0);
        DUE.is("no bench", y.laws(0), -2);
        DUE.is("no bench, no row", y.laws(1), -2);
        DUE.is("no bench, sat", y.sat(0, 0), -2);
        DUE.is("no bench, ask", y.ask(0, 0), -2);
    }

    private static void marks() {
        WearingBench x = Tell.of(TWO);
        x.row(0, 0, 0);
        DUE.is("no pair", x.marks(0), 1);
        for (int i = 0; i < 10; i++) {
            DUE.is("as they are " + i, x.mark(0, i), i);
            DUE.is("none surely ahead of " + i, x.under(0, i), 0);
        }
        // 0 over 9, 9 over 4, 2 over 0
        Tell.row(x, 0, 1, 0, 9, 9, 4, 2, 0, 0, 9);
        DUE.is("an order", x.marks(0), 1);
        int[] order = {1, 3, 4, 5, 6, 7, 8, 9, 0, 2};
        for (int i = 0; i < 10; i++) {
            DUE.is("mark " + i, x.mark(0, i), order[i]);
        }
        DUE.is("mark 10", x.mark(0, 10), -1);
        DUE.is("mark -1", x.mark(0, -1), -1);
        DUE.is("under 2", x.under(0, 2), 1 | 1 << 9 | 1 << 4);
        DUE.is("under 0", x.under(0, 0), 1 << 9 | 1 << 4);
        DUE.is("under 9", x.under(0, 9), 1 << 4);
        DUE.is("under 4", x.under(0, 4), 0);
        Tell.row(x, 0, 0, 1, 2, 2, 3, 3, 1);
        DUE.is("round", x.marks(0), 0);
        DUE.is("round, mark", x.mark(0, 0), -1);
        DUE.is("round, under", x.under(0, 7), -1);
        Tell.row(x, 0, 0, 5, 5);
        DUE.is("over itself", x.marks(0), 0);
        Tell.row(x, 0, 0, 9, 8, 8, 7, 7, 6, 6, 5, 5, 4, 4, 3, 3, 2, 2, 1, 1, 0);
        DUE.is("all of them", x.under(0, 9), 511);
        Tell.row(x, 0, 0, 0, 1, 1, 2, 2, 3, 3, 4, 4, 5, 5, 6, 6, 7, 7, 8, 8, 9);
        DUE.is("the other way", x.mark(0, 0), 9);
        DUE.is("all but itself", x.under(0, 0), 1022);
    }

    private static void wrongMarks() {
        WearingBench x = Tell.of(TWO);
        DUE.is("no row", x.marks(0), -6);
        DUE.is("no row, mark", x.mark(0, 0), -6);
        DUE.is("no row, mark 10", x.mark(0, 10), -6);
        DUE.is("no row, under", x.under(0, 0), -6);
        DUE.is("no such mark ahead of it", x.under(0, 10), -2);
        DUE.is("slot 4", x.marks(4), -2);
        DUE.is("slot -1, mark", x.mark(-1, 0), -2);
        DUE.is("slot 4, under", x.under(4, 0), -2);
        long[][] wrong = {{0}, {1, 2, 3}, {10, 0}, {0, 10}, {-1, 0}, {0, -1}, {4294967296L, 1}, {1, 2, 3, 10}};
        for (long[] row : wrong) {
            Tell.row(x, 1, 3, row);
            DUE.is("marks of " + java.util.Arrays.toString(row), x.marks(1), -2);
            DUE.is("mark of " + java.util.Arrays.toString(row), x.mark(1, 0), -2);
            DUE.is("under of " + java.util.Arrays.toString(row), x.under(1, 0), -2);
        }
        x.row(2, 0, 0);
        DUE.is("under -1", x.under(2, -1), -2);
        DUE.is("under 10", x.under(2, 10), -2);
        WearingBench y = new WearingBench();
        y.row(0, 0, 0);
        DUE.is("no bench", y.marks(0), -2);
        DUE.is("no bench, mark", y.mark(0, 0), -2);
        DUE.is("no bench, under", y.under(0, 0), -2);
        DUE.is("no bench, no row", y.marks(1), -2);
    }

    private static void games() {
        WearingBench x = Tell.of("bench law 0 wear 0 every 5 odds 0;seat gives 1;seat gives 0;"
                + "caller age 10 comes 0 seat 0 told 10 to 10;caller age 20 comes 0 seat 0 told 20 to 20;");
        // 0 chooses seat 1 and has 1 whatever the other one does; who sits on seat 1 behind 0 is 1 till 5,
        // and 1 told either seat sits on 0 then and is 30 at 10
        DUE.is("rests", x.rests(0, 1), 2);
        DUE.is("rest", x.rest(0, 1), 10);
        DUE.is("rests the other way", x.rests(1, 0), 2);
        DUE.is("rest the other way", x.rest(1, 0), 1);
        WearingBench y = Tell.of("bench law 0 wear 0 every 5 odds 0;seat gives 1;seat gives 0;"
                + "caller age 10 comes 0 seat 0 told 99 to 99;caller age 20 comes 0 seat 0 told 99 to 99;");
        DUE.is("nobody can have more", y.rests(0, 1), 4);
        DUE.is("first of all", y.rest(0, 1), 0);
        DUE.is("one twice", y.rests(1, 1), -2);
        DUE.is("one twice, rest", y.rest(0, 0), -2);
    }

    private static void swaps() {
        WearingBench x = Tell.of("bench law 0 wear 0 every 5 odds 0;seat gives 1;seat gives 0;"
                + "caller age 10 comes 0 seat 0 told 10 to 10;caller age 20 comes 0 seat 1 told 30 to 30;"
                + "caller age 20 comes 30 seat 1 told 20 to 20;");
        DUE.is("told", x.told(), 4);
        // 0 and 1; 0 and 2 as well, since 1 then finds seat 1 taken
        DUE.is("swaps", x.swaps(), 2);
        DUE.is("swap", x.swap(), 1);
        WearingBench y = Tell.of(TWO);
        DUE.is("both are told off", y.swaps(), 0);
        DUE.is("no swap", y.swap(), -1);
    }

    private static void wrongInputs() {
        WearingBench x = Tell.of(TWO);
        for (int c : new int[] {-1, 2, 5, Integer.MIN_VALUE, Integer.MAX_VALUE}) {
            DUE.is("without " + c, x.without(c), -2);
            DUE.is("helps " + c, x.helps(c), -2);
            DUE.is("less " + c, x.less(c), -2);
            DUE.is("tuned " + c, x.tuned(c), -100);
            DUE.is("moved " + c, x.moved(c, 0), -2);
            DUE.is("suits " + c, x.suits(c), -2);
            DUE.is("hour " + c, x.hour(c), -2);
            DUE.is("youth " + c, x.youth(c), -2);
            DUE.is("plan " + c, x.plan(c), -2);
            DUE.is("rests " + c, x.rests(c, 0), -2);
            DUE.is("rests other " + c, x.rests(0, c), -2);
            DUE.is("rest " + c, x.rest(c, 1), -2);
            DUE.is("rest other " + c, x.rest(1, c), -2);
        }
        DUE.is("by -1", x.by(-1), -2);
        DUE.is("by 4", x.by(4), -2);
        DUE.is("moved at -1", x.moved(0, -1), -2);
        DUE.is("moved at 61", x.moved(0, 61), -2);
        WearingBench y = new WearingBench();
        DUE.is("no bench, best", y.best(), -2);
        DUE.is("no bench, ways", y.ways(), -2);
        DUE.is("no bench, every", y.every(), -2);
        DUE.is("no bench, calls", y.calls(), -2);
        DUE.is("no bench, none", y.none(), -2);
        DUE.is("no bench, by", y.by(0), -2);
        DUE.is("no bench, law", y.law(), -2);
        DUE.is("no bench, swaps", y.swaps(), -2);
        DUE.is("no bench, swap", y.swap(), -2);
        DUE.is("no bench, plan", y.plan(0), -2);
        DUE.is("no bench, tuned", y.tuned(0), -100);
        Tell.bench(y, "bench law 0 wear 0 every 30 odds 0;");
        DUE.is("bare, best", y.best(), 0);
        DUE.is("bare, ways", y.ways(), 1);
        DUE.is("bare, every", y.every(), 1);
        DUE.is("bare, calls", y.calls(), 0);
        DUE.is("bare, none", y.none(), 1);
        DUE.is("bare, by", y.by(3), 0);
        DUE.is("bare, law", y.law(), 0);
        DUE.is("bare, swaps", y.swaps(), 0);
        DUE.is("bare, swap", y.swap(), -1);
        for (int c : WRONG) {
            DUE.is("bare, plan " + c, y.plan(c), -2);
        }
    }
}
