/** Promises 62 to 76: chances, acts, days drawn, wear, counts, images, rows; edges and wrong inputs. */
public final class ActsTest {
    private static final Due DUE = new Due("ActsTest");

    private static final String ONE = "bench law 0 wear 7 every 5 odds 3;seat gives 1;seat gives 0;seat gives 2;"
            + "caller age 10 comes 0 seat 0 told 15 to 15;";
    private static final String PAIR = ONE + "caller age 20 comes 0 seat 0 told 20 to 20;";

    public static void main(String[] args) {
        chances();
        callsThatAreFew();
        wrongChances();
        moves();
        fortyActs();
        takenBack();
        days();
        rate();
        counts();
        images();
        rows();
        writes();
        pastes();
        wrongPastes();
        DUE.end();
    }

    private static void fraction(String what, long above, long below, long gotAbove, long gotBelow) {
        DUE.is(what + " above", gotAbove, above);
        DUE.is(what + " below", gotBelow, below);
    }

    private static void chances() {
        WearingBench x = Tell.of(PAIR);
        fraction("chance 0", 0, 1, x.chance(0, 0, 0), x.chance(0, 0, 1));
        fraction("chance 1", 7, 10, x.chance(0, 1, 0), x.chance(0, 1, 1));
        fraction("chance 2", 91, 100, x.chance(0, 2, 0), x.chance(0, 2, 1));
        fraction("the other one at 1", 0, 1, x.chance(1, 1, 0), x.chance(1, 1, 1));
        fraction("the other one at 2", 49, 100, x.chance(1, 2, 0), x.chance(1, 2, 1));
        // he goes in at 3 unless two or three are missed: 1000 - 27 - 3 * 63
        fraction("the other one at 3", 784, 1000, x.chance(1, 3, 0) * 8, x.chance(1, 3, 1) * 8);
        fraction("told off at the first alone", 7, 10, x.luckily(0, 10, 0), x.luckily(0, 10, 1));
        // seat 1 gives nothing: he is told off whenever he goes in
        fraction("luckily 1", 49, 100, x.luckily(1, 2, 0), x.luckily(1, 2, 1));
        fraction("mean 0", 0, 1, x.mean(0, 0), x.mean(0, 1));
        fraction("mean 1", 7, 10, x.mean(1, 0), x.mean(1, 1));
        fraction("mean 2", 7, 5, x.mean(2, 0), x.mean(2, 1));
        WearingBench sure = Tell.of("bench law 0 wear 7 every 5 odds 0;seat gives 1;caller age 10 comes 0 seat 0 told 15 to 15;");
        fraction("sure", 1, 1, sure.luckily(0, 1, 0), sure.luckily(0, 1, 1));
        WearingBench never = Tell.of("bench law 0 wear 7 every 5 odds 10;seat gives 1;caller age 10 comes 0 seat 0 told 15 to 15;");
        fraction("never", 0, 1, never.chance(0, 10, 0), never.chance(0, 10, 1));
        fraction("by ten calls", 9999940951L, 10000000000L, x.chance(0, 10, 0), x.chance(0, 10, 1));
        x.rate(9);
        x.move(0, 2, 1);
        fraction("told off no more", 0, 1, x.luckily(0, 10, 0), x.luckily(0, 10, 1));
    }

    /** A call counts, be anybody there or not; the calls end with minute 60. */
    private static void callsThatAreFew() {
        WearingBench x = Tell.of("bench law 0 wear 0 every 30 odds 5;seat gives 0;"
                + "caller age 10 comes 0 seat 0 told 10 to 10;caller age 10 comes 30 seat 0 told 10 to 10;");
        fraction("two calls alone", 3, 4, x.chance(0, 10, 0), x.chance(0, 10, 1));
        fraction("both needed", 1, 4, x.chance(1, 10, 0), x.chance(1, 10, 1));
        WearingBench late = Tell.of("bench law 0 wear 0 every 3 odds 5;seat gives 0;"
                + "caller age 10 comes 30 seat 0 told 10 to 10;");
        fraction("nine without him", 0, 1, late.chance(0, 9, 0), late.chance(0, 9, 1));
        fraction("the tenth", 1, 2, late.chance(0, 10, 0), late.chance(0, 10, 1));
        fraction("mean of the tenth", 1, 2, late.mean(10, 0), late.mean(10, 1));
    }

    private static void wrongChances() {
        WearingBench x = Tell.of(PAIR);
        for (int c : new int[] {-1, 2, Integer.MIN_VALUE, Integer.MAX_VALUE}) {
            DUE.is("chance of " + c, x.chance(c, 1, 0), -2);
            DUE.is("luckily of " + c, x.luckily(c, 1, 0), -2);
        }
        for (int k : new int[] {-1, 11, Integer.MIN_VALUE, Integer.MAX_VALUE}) {
            DUE.is("chance at " + k, x.chance(0, k, 0), -2);
            DUE.is("luckily at " + k, x.luckily(0, k, 0), -2);
            DUE.is("mean at " + k, x.mean(k, 0), -2);
        }
        for (int what : new int[] {-1, 2}) {
            DUE.is("chance what " + what, x.chance(0, 1, what), -2);
            DUE.is("luckily what " + what, x.luckily(0, 1, what), -2);
            DUE.is("mean what " + what, x.mean(1, what), -2);
        }
        DUE.is("no bench", new WearingBench().mean(1, 0), -2);
        DUE.is("no bench, chance", new WearingBench().chance(0, 1, 0), -2);
        DUE.is("no bench, luckily", new WearingBench().luckily(0, 1, 0), -2);
    }

    private static void moves() {
        WearingBench x = Tell.of(PAIR);
        DUE.is("not there as he comes", x.move(0, 2, 0), 0);
        DUE.is("to a free seat", x.move(0, 2, 3), 1);
        DUE.is("he sits there", x.sits(0, 3), 2);
        DUE.is("age", x.age(0, 5), 17);
        DUE.is("the seat he left is free", x.free(3), 1);
        DUE.is("to a taken one", x.move(1, 2, 3), 0);
        DUE.is("to his own", x.move(0, 2, 3), 0);
        DUE.is("to the one left", x.move(1, 0, 3), 1);
        DUE.is("when he went in", x.move(0, 1, 6), 0);
        DUE.is("at the call he can", x.move(0, 1, 5), 1);
        DUE.is("acts", x.count(6), 7);
        DUE.is("behind a later minute's move", x.move(0, 1, 2), 0);
        WearingBench y = Tell.of("bench law 0 wear 7 every 5 odds 3;seat gives 1;"
                + "caller age 10 comes 0 seat 0 told 15 to 15;caller age 20 comes 0 seat 0 told 20 to 20;"
                + "caller age 20 comes 1 seat 0 told 20 to 20;");
        DUE.is("who stands can, ahead of the others", y.move(2, 0, 6), 1);
        DUE.is("so he sits", y.sits(2, 6), 0);
        DUE.is("and the other stands", y.stands(6), 2);
        DUE.is("not while it is taken", y.move(1, 0, 5), 0);
        DUE.is("an act all the same", y.count(6), 2);
    }

    private static void fortyActs() {
        WearingBench x = Tell.of(ONE);
        for (int i = 0; i < 40; i++) {
            x.move(0, i % 2 + 1, 1);
        }
        DUE.is("forty", x.count(6), 40);
        DUE.is("one behind the other", x.sits(0, 1), 2);
        DUE.is("one more", x.move(0, 1, 1), -5);
        DUE.is("forty still", x.count(6), 40);
        DUE.is("-2 ahead of -5", x.move(1, 1, 1), -2);
        DUE.is("seat none such", x.move(0, 3, 1), -2);
        DUE.is("minute none such", x.move(0, 1, 61), -2);
        DUE.is("below", x.move(0, -1, 1), -2);
        DUE.is("below 0", x.move(-1, 1, 1), -2);
        DUE.is("minute below 0", x.move(0, 1, -1), -2);
        DUE.is("undo", x.undo(), 39);
        DUE.is("the seat before", x.sits(0, 1), 1);
        DUE.is("again one", x.move(0, 2, 1), 1);
        DUE.is("and none more", x.move(0, 1, 2), -5);
        DUE.is("no bench", new WearingBench().move(0, 0, 0), -2);
    }

    private static void takenBack() {
        WearingBench x = new WearingBench();
        DUE.is("undo without a bench", x.undo(), -2);
        DUE.is("anew without a bench", x.anew(), -2);
        Tell.bench(x, ONE);
        DUE.is("undo of none", x.undo(), -5);
        DUE.is("anew of none", x.anew(), 0);
        x.move(0, 1, 1);
        x.move(0, 2, 2);
        x.move(0, 1, 0);
        DUE.is("undo what was not done", x.undo(), 2);
        DUE.is("undo", x.undo(), 1);
        DUE.is("the rest stays", x.sits(0, 3), 1);
        x.move(0, 2, 2);
        DUE.is("anew", x.anew(), 2);
        DUE.is("as told", x.sits(0, 3), 0);
        DUE.is("no acts", x.count(6), 0);
    }

    private static void days() {
        WearingBench x = Tell.of(PAIR);
        // from 0 come 12345, 1406932606, 654583775, ..: draws 0 8 8 7 8 7 5 1 2 0 1 2
        DUE.is("below 3", x.drawn(0, 1), 6);
        DUE.is("0 is 20 at 10, 1 goes in at 15", x.drawn(0, 0), 2);
        Oracle o = new Oracle();
        o.every = 5;
        o.odds = 3;
        for (int seed : new int[] {0, 1, 2, 77, 1999999999, 2000000000}) {
            DUE.is("calls missed from " + seed, x.drawn(seed, 1), Long.bitCount(o.drawn(seed)));
        }
        DUE.is("seed -1", x.drawn(-1, 0), -2);
        DUE.is("seed above", x.drawn(2000000001, 0), -2);
        DUE.is("what 2", x.drawn(0, 2), -2);
        DUE.is("what -1", x.drawn(0, -1), -2);
        DUE.is("no bench", new WearingBench().drawn(0, 0), -2);
        WearingBench all = Tell.of("bench law 0 wear 7 every 1 odds 10;seat gives 0;caller age 1 comes 0 seat 0 told 0 to 9;");
        DUE.is("all missed", all.drawn(5, 1), 60);
        DUE.is("nobody told off", all.drawn(5, 0), 0);
        DUE.is("forgotten on each", all.luck(2000000000, 20, 0), 20);
        WearingBench sure = Tell.of("bench law 0 wear 7 every 1 odds 0;seat gives 0;caller age 1 comes 0 seat 0 told 0 to 9;");
        DUE.is("none missed", sure.drawn(5, 1), 0);
        DUE.is("told off", sure.drawn(5, 0), 1);
        DUE.is("forgotten on none", sure.luck(5, 20, 0), 0);
        DUE.is("n 0", all.luck(5, 0, 0), -2);
        DUE.is("n 21", all.luck(5, 21, 0), -2);
        DUE.is("n 1", all.luck(5, 1, 0), 1);
        DUE.is("luck seed -1", all.luck(-1, 1, 0), -2);
        DUE.is("luck seed above", all.luck(2000000001, 1, 0), -2);
        DUE.is("luck caller", all.luck(5, 1, 1), -2);
        DUE.is("luck caller -1", all.luck(5, 1, -1), -2);
        DUE.is("luck without a bench", new WearingBench().luck(5, 1, 0), -2);
    }

    private static void rate() {
        WearingBench x = Tell.of("bench law 1 wear 7 every 5 odds 3;seat gives 9;caller age 10 comes 0 seat 0 told 3 to 3;");
        DUE.is("age by 7", x.age(0, 5), 7);
        DUE.is("rate", x.rate(3), 7);
        DUE.is("age by 3", x.age(0, 5), 3);
        DUE.is("wear", x.count(2), 3);
        DUE.is("rate 0", x.rate(0), 3);
        DUE.is("rate 99", x.rate(99), 0);
        DUE.is("rate 100", x.rate(100), -2);
        DUE.is("rate -1", x.rate(-1), -2);
        x.move(0, 0, 1);
        DUE.is("there are acts", x.rate(5), -5);
        DUE.is("-2 ahead of -5", x.rate(100), -2);
        DUE.is("wear stays", x.count(2), 99);
        x.undo();
        DUE.is("taken back", x.rate(5), 99);
        DUE.is("no bench", new WearingBench().rate(0), -2);
    }

    private static void counts() {
        WearingBench x = Tell.of(PAIR);
        x.move(0, 1, 1);
        x.feed(0, 0, 0, 0, 0);
        x.row(1, 0, 0);
        x.row(3, 0, 9);
        int[] due = {3, 0, 7, 5, 3, 2, 1, 6, 20, 2};
        for (int what = 0; what < 10; what++) {
            DUE.is("count " + what, x.count(what), due[what]);
        }
        DUE.is("count 10", x.count(10), -1);
        DUE.is("count -1", x.count(-1), -1);
    }

    private static void images() {
        WearingBench x = new WearingBench();
        DUE.is("image -1", x.image(-1), -2);
        DUE.is("image 3", x.image(3), -2);
        DUE.is("back -1", x.back(-1), -2);
        DUE.is("back 3", x.back(3), -2);
        DUE.is("back of nothing", x.back(2), -6);
        DUE.is("image of no bench", x.image(2), 0);
        Tell.bench(x, PAIR);
        DUE.is("image of the bench", x.image(0), 0);
        x.rate(50);
        x.move(0, 2, 1);
        DUE.is("image with acts", x.image(1), 0);
        x.move(0, 0, 2);
        x.row(0, 0, 3);
        x.feed(0, 0, 0, 0, 0);
        DUE.is("back 1", x.back(1), 0);
        DUE.is("acts", x.count(6), 1);
        DUE.is("sits", x.sits(0, 3), 2);
        DUE.is("wear", x.count(2), 50);
        DUE.is("rows stay", x.count(9), 1);
        DUE.is("the tape stays", x.count(8), 20);
        x.undo();
        DUE.is("the image stays", x.back(1), 0);
        DUE.is("acts again", x.count(6), 1);
        DUE.is("back 0", x.back(0), 0);
        DUE.is("wear 7", x.count(2), 7);
        DUE.is("no acts", x.count(6), 0);
        DUE.is("sits as told", x.sits(0, 3), 0);
        x.end(0);
        Tell.bench(x, "bench law 3 wear 1 every 2 odds 4;");
        DUE.is("another bench", x.count(7), 1);
        x.back(0);
        DUE.is("lines", x.count(7), 6);
        DUE.is("seats", x.count(0), 3);
        DUE.is("told", x.told(), 3);
        DUE.is("back to no bench", x.back(2), 0);
        DUE.is("there is none", x.told(), -2);
    }

    private static void rows() {
        WearingBench x = new WearingBench();
        DUE.is("row", x.row(0, 0, 60), 0);
        DUE.is("row 61", x.row(0, 0, 61), -2);
        DUE.is("row max", x.row(0, 0, Integer.MAX_VALUE), -2);
        DUE.is("row -1", x.row(0, 0, -1), -3);
        DUE.is("row min", x.row(0, 0, Integer.MIN_VALUE), -3);
        DUE.is("it stays", x.write(0, 59, 1), 0);
        DUE.is("slot -1", x.row(-1, 0, 1), -2);
        DUE.is("slot 4", x.row(4, 0, -1), -2);
        DUE.is("width -1", x.row(0, -1, -1), -2);
        DUE.is("width 4", x.row(0, 4, 1), -2);
        DUE.is("a row of none", x.row(3, 3, 0), 0);
        DUE.is("is a row", x.write(3, 0, 0), -7);
        DUE.is("below 0 makes none", x.row(1, 0, -1), -3);
        DUE.is("nothing still", x.write(1, 0, 0), -6);
        Tell.bench(x, PAIR);
        Tell.row(x, 0, 0, 1, 0);
        DUE.is("1 over 0", x.under(0, 1), 1);
        x.row(0, 0, 2);
        DUE.is("all 0 again", x.marks(0), 0);
    }

    private static void writes() {
        WearingBench x = Tell.of(PAIR);
        DUE.is("slot 4", x.write(4, 0, 0), -2);
        DUE.is("slot -1", x.write(-1, 0, 0), -2);
        DUE.is("nothing", x.write(2, -1, 0), -6);
        x.row(2, 0, 3);
        DUE.is("number 3", x.write(2, 3, 0), -7);
        DUE.is("number -1", x.write(2, -1, 0), -7);
        DUE.is("number max", x.write(2, Integer.MAX_VALUE, 0), -7);
        // a caller, a minute, an age: what is cut fits, what is not does not
        long[] over = {256, 65536, 4294967296L};
        for (int width = 0; width < 4; width++) {
            for (int i = 0; i < 3; i++) {
                Tell.row(x, 2, width, over[i] + 1, over[i], over[i] + 20);
                DUE.is("cut of " + over[i] + " to " + width, x.laws(2), width <= i ? 15 : -2);
            }
            Tell.row(x, 2, width, 0, 60, -1);
            DUE.is("below 0 by " + width, x.laws(2), 15);
            Tell.row(x, 2, width, 0, 60, Long.MIN_VALUE);
            DUE.is("the least by " + width, x.laws(2), width < 3 ? 0 : -2);
        }
        Tell.row(x, 2, 0, 0, 60, 255);
        DUE.is("255 is -1 by a byte", x.laws(2), 15);
        Tell.row(x, 2, 1, 0, 60, 255);
        DUE.is("255 is 255 by two", x.laws(2), -2);
    }

    /** What a row of marks has, told by the one order that it leaves. */
    private static void order(WearingBench x, int slot, int... due) {
        for (int i = 0; i < due.length; i++) {
            DUE.is("order of slot " + slot + " at " + i, x.mark(slot, i), due[i]);
        }
    }

    private static void pastes() {
        WearingBench x = Tell.of(PAIR);
        Tell.row(x, 0, 1, 5, 7, 7, 9);
        Tell.row(x, 1, 1, 0, 1, 0, 1);
        DUE.is("paste", x.paste(0, 0, 1, 2, 2), 0);
        order(x, 1, 1, 0, 2, 3, 4, 6, 7, 5);
        order(x, 0, 0, 1, 2, 3, 4, 6, 8, 9, 7, 5);
        // 5 7 7 9 on itself, one further: 5 5 7 7
        DUE.is("on itself, up", x.paste(0, 0, 0, 1, 3), 0);
        DUE.is("5 over 5", x.marks(0), 0);
        Tell.row(x, 0, 1, 5, 5, 7, 8);
        DUE.is("on itself, down", x.paste(0, 1, 0, 0, 3), 0);
        // 5 7 8 8
        DUE.is("8 over 8", x.marks(0), 0);
        x.write(0, 3, 9);
        order(x, 0, 0, 1, 2, 3, 4, 6, 7, 5);
        Tell.row(x, 0, 1, 9, 8, 7, 6, 5, 4);
        x.paste(0, 0, 0, 2, 4);
        // 9 8 9 8 7 6
        DUE.is("as they were", x.under(0, 9), 1 << 8);
        DUE.is("as they were, 7", x.under(0, 7), 1 << 6);
        DUE.is("as they were, 5", x.under(0, 5), 0);
        Tell.row(x, 0, 1, 9, 8, 7, 6, 5, 4);
        x.paste(0, 0, 0, 2, 2);
        // 9 8 9 8 5 4
        DUE.is("what is behind stays", x.under(0, 5), 1 << 4);
        DUE.is("what is put", x.under(0, 7), 0);
        Tell.row(x, 0, 1, 9, 8, 7, 6, 5, 4);
        x.paste(0, 4, 0, 0, 2);
        // 5 4 7 6 5 4
        DUE.is("what is behind stays, 7", x.under(0, 7), 1 << 6);
        DUE.is("what is put, 9", x.under(0, 9), 0);
    }

    private static void wrongPastes() {
        WearingBench x = Tell.of(PAIR);
        Tell.row(x, 0, 1, 1, 0, 2, 0);
        x.row(1, 2, 4);
        x.row(3, 1, 2);
        DUE.is("slot 4", x.paste(4, 0, 0, 0, 0), -2);
        DUE.is("to 4", x.paste(0, 0, 4, 0, 0), -2);
        DUE.is("-1", x.paste(-1, 0, 2, 0, -1), -2);
        DUE.is("to -1, from nothing", x.paste(2, 0, -1, 0, 0), -2);
        DUE.is("nothing", x.paste(2, 0, 0, 0, 0), -6);
        DUE.is("to nothing", x.paste(0, 0, 2, 0, 0), -6);
        DUE.is("nothing to nothing", x.paste(2, 9, 2, 9, -9), -6);
        DUE.is("unlike", x.paste(0, 0, 1, 0, 1), -8);
        DUE.is("unlike ahead of beyond", x.paste(0, 9, 1, 9, 9), -8);
        int[][] beyond = {{0, 0, 3}, {3, 0, 2}, {0, 1, 2}, {5, 0, 0}, {0, 3, 0}, {-1, 0, 1}, {0, -1, 1}, {0, 0, -1},
            {Integer.MAX_VALUE, 0, 1}, {1, 0, Integer.MAX_VALUE}, {0, Integer.MAX_VALUE, Integer.MAX_VALUE},
            {Integer.MIN_VALUE, 0, 0}, {0, 0, Integer.MIN_VALUE}, {-1, 0, 0}};
        for (int[] at : beyond) {
            DUE.is("beyond " + java.util.Arrays.toString(at), x.paste(0, at[0], 3, at[1], at[2]), -7);
        }
        DUE.is("nothing happened", x.marks(3), 0);
        DUE.is("none at the end", x.paste(0, 4, 3, 2, 0), 0);
        DUE.is("the last two", x.paste(0, 2, 3, 0, 2), 0);
        DUE.is("2 over 0", x.under(3, 2), 1);
    }
}
